def f_X7_copies_13_L2 : Nat → Int32 → St → Option (St)
  | 0, _, _ => none
  | n + 1, x2, w => (if x2 < 235 then if ib x2 235 then if ib x2 235 then f_X7_copies_13_L2 n (x2 + 1) (sA w 2 x2 (w.2 0 x2.toNatClampNeg)) else none else none else some (w))
def f_X7_copies_13 (w : St) : Option (Int32 × St) := (f_X7_copies_13_L2 BIG 0 w).bind fun o4 => some (0, o4)
set_option maxRecDepth 100000 in
set_option maxHeartbeats 4000000 in
theorem gl_X7_copies_13_L2 {p : Program} {l : Launch} {e : Env} {s : State} {m : MethodId} {args : Array Value} {below : List Frame} {meth : Method} {c : Code} {D : va_G} {A : Nat → Prop} {cI : ClassId × ClassId} {ad : Nat → Nat} {Q : State → Prop} {o : St} (X : gX p s m args meth c cX7_copies 3 RX7 D cI) (n : Nat) : ∀ {x2 : Int32} {w : St}, f_X7_copies_13_L2 n x2 w = some o → G p l e rm_X7_copies s m args below meth c D A 3 Q (wM ad cI) 0 0 21 [none, none, none] [] o → G p l e rm_X7_copies s m args below meth c D A 3 Q (wM ad cI) 0 0 2 [some (.ref (ad 1)), some (.ref (ad 3)), some (.int x2)] [] w := by
  induction n with
  | zero => intro x2 w hf; cases hf
  | succ n ih =>
    intro x2 w hf k
    rw [f_X7_copies_13_L2] at hf
    refine g_iload_n X (i := 2) dX7_copies_2 rfl rfl ?_
    refine g_sipush X dX7_copies_3 (v := 235) (by decide) ?_
    refine g_icmp_ge X dX7_copies_6 (tgt := 21) (by decide) hf (fun c1 hf => ?_) (fun c1 hf => ?_)
    · refine g_aload_n X (i := 1) dX7_copies_9 rfl rfl ?_
      refine g_iload_n X (i := 2) dX7_copies_10 rfl rfl ?_
      refine g_aload_n X (i := 0) dX7_copies_11 rfl rfl ?_
      refine g_iload_n X (i := 2) dX7_copies_12 rfl rfl ?_
      obtain ⟨hb2, hf⟩ := hfg hf
      refine g_iald X (q0 := 1) (f := w.2 0) dX7_copies_13 rfl hb2 ?_
      obtain ⟨hb3, hf⟩ := hfg hf
      refine g_iast X (q0 := 3) (f := w.2 2) dX7_copies_14 rfl hb3 (awM_2 ad cI _ _ _) ?_
      refine g_iinc X (i := 2) (v := 1) dX7_copies_15 rfl (by decide) (by decide) rfl ?_
      refine g_goto X dX7_copies_18 (tgt := 2) (by decide) ?_
      exact ih hf k
    · obtain rfl := Option.some.inj hf
      refine g_sub (losub (lo' := [none, none, none]) trivial) ?_
      exact k
set_option maxRecDepth 100000 in
set_option maxHeartbeats 4000000 in
theorem c_X7_copies_13 {l : Launch} {D : va_G} {cI : ClassId × ClassId} {A : Nat → Prop} {ad : Nat → Nat} {w : St} {o : Int32 × St} (hf : f_X7_copies_13 w = some o) : CTv l D cI A yX7_copies cX7_copies 3 (none) rm_X7_copies [.ref (ad 1), .ref (ad 3)] ((wM ad cI) w) ((wM ad cI) o.2)   := by
  refine CTv.of (by decide +kernel) rfl (Nat.le_of_ble_eq_true rfl) ?_
  intro p e s m args below meth c X hr
  have X : gX p s m args meth c cX7_copies 3 RX7 D cI := X
  show G _ _ _ _ _ _ _ _ _ _ _ _ _ _ _ _ _ 0 [some (.ref (ad 1)), some (.ref (ad 3)), none] [] w
  unfold f_X7_copies_13 at hf
  refine g_iconst X dX7_copies_0 (v := 0) (by decide) ?_
  refine g_istore_n X (i := 2) dX7_copies_1 rfl (by decide) rfl ?_
  obtain ⟨o4, h5, hf⟩ := hfb hf
  refine gl_X7_copies_13_L2 X BIG h5 ?_
  exact g_vret X hr dX7_copies_21 hf
def f_X7_copies_31_L2 : Nat → Int32 → St → Option (St)
  | 0, _, _ => none
  | n + 1, x2, w => (if x2 < 235 then if ib x2 235 then if ib x2 235 then f_X7_copies_31_L2 n (x2 + 1) (sA w 0 x2 (w.2 2 x2.toNatClampNeg)) else none else none else some (w))
def f_X7_copies_31 (w : St) : Option (Int32 × St) := (f_X7_copies_31_L2 BIG 0 w).bind fun o4 => some (0, o4)
set_option maxRecDepth 100000 in
set_option maxHeartbeats 4000000 in
theorem gl_X7_copies_31_L2 {p : Program} {l : Launch} {e : Env} {s : State} {m : MethodId} {args : Array Value} {below : List Frame} {meth : Method} {c : Code} {D : va_G} {A : Nat → Prop} {cI : ClassId × ClassId} {ad : Nat → Nat} {Q : State → Prop} {o : St} (X : gX p s m args meth c cX7_copies 3 RX7 D cI) (n : Nat) : ∀ {x2 : Int32} {w : St}, f_X7_copies_31_L2 n x2 w = some o → G p l e rm_X7_copies s m args below meth c D A 3 Q (wM ad cI) 0 0 21 [none, none, none] [] o → G p l e rm_X7_copies s m args below meth c D A 3 Q (wM ad cI) 0 0 2 [some (.ref (ad 3)), some (.ref (ad 1)), some (.int x2)] [] w := by
  induction n with
  | zero => intro x2 w hf; cases hf
  | succ n ih =>
    intro x2 w hf k
    rw [f_X7_copies_31_L2] at hf
    refine g_iload_n X (i := 2) dX7_copies_2 rfl rfl ?_
    refine g_sipush X dX7_copies_3 (v := 235) (by decide) ?_
    refine g_icmp_ge X dX7_copies_6 (tgt := 21) (by decide) hf (fun c1 hf => ?_) (fun c1 hf => ?_)
    · refine g_aload_n X (i := 1) dX7_copies_9 rfl rfl ?_
      refine g_iload_n X (i := 2) dX7_copies_10 rfl rfl ?_
      refine g_aload_n X (i := 0) dX7_copies_11 rfl rfl ?_
      refine g_iload_n X (i := 2) dX7_copies_12 rfl rfl ?_
      obtain ⟨hb2, hf⟩ := hfg hf
      refine g_iald X (q0 := 3) (f := w.2 2) dX7_copies_13 rfl hb2 ?_
      obtain ⟨hb3, hf⟩ := hfg hf
      refine g_iast X (q0 := 1) (f := w.2 0) dX7_copies_14 rfl hb3 (awM_0 ad cI _ _ _) ?_
      refine g_iinc X (i := 2) (v := 1) dX7_copies_15 rfl (by decide) (by decide) rfl ?_
      refine g_goto X dX7_copies_18 (tgt := 2) (by decide) ?_
      exact ih hf k
    · obtain rfl := Option.some.inj hf
      refine g_sub (losub (lo' := [none, none, none]) trivial) ?_
      exact k
set_option maxRecDepth 100000 in
set_option maxHeartbeats 4000000 in
theorem c_X7_copies_31 {l : Launch} {D : va_G} {cI : ClassId × ClassId} {A : Nat → Prop} {ad : Nat → Nat} {w : St} {o : Int32 × St} (hf : f_X7_copies_31 w = some o) : CTv l D cI A yX7_copies cX7_copies 3 (none) rm_X7_copies [.ref (ad 3), .ref (ad 1)] ((wM ad cI) w) ((wM ad cI) o.2)   := by
  refine CTv.of (by decide +kernel) rfl (Nat.le_of_ble_eq_true rfl) ?_
  intro p e s m args below meth c X hr
  have X : gX p s m args meth c cX7_copies 3 RX7 D cI := X
  show G _ _ _ _ _ _ _ _ _ _ _ _ _ _ _ _ _ 0 [some (.ref (ad 3)), some (.ref (ad 1)), none] [] w
  unfold f_X7_copies_31 at hf
  refine g_iconst X dX7_copies_0 (v := 0) (by decide) ?_
  refine g_istore_n X (i := 2) dX7_copies_1 rfl (by decide) rfl ?_
  obtain ⟨o4, h5, hf⟩ := hfb hf
  refine gl_X7_copies_31_L2 X BIG h5 ?_
  exact g_vret X hr dX7_copies_21 hf
def f_X7_copies_14_L2 : Nat → Int32 → St → Option (St)
  | 0, _, _ => none
  | n + 1, x2, w => (if x2 < 235 then if ib x2 235 then if ib x2 235 then f_X7_copies_14_L2 n (x2 + 1) (sA w 3 x2 (w.2 0 x2.toNatClampNeg)) else none else none else some (w))
def f_X7_copies_14 (w : St) : Option (Int32 × St) := (f_X7_copies_14_L2 BIG 0 w).bind fun o4 => some (0, o4)
set_option maxRecDepth 100000 in
set_option maxHeartbeats 4000000 in
theorem gl_X7_copies_14_L2 {p : Program} {l : Launch} {e : Env} {s : State} {m : MethodId} {args : Array Value} {below : List Frame} {meth : Method} {c : Code} {D : va_G} {A : Nat → Prop} {cI : ClassId × ClassId} {ad : Nat → Nat} {Q : State → Prop} {o : St} (X : gX p s m args meth c cX7_copies 3 RX7 D cI) (n : Nat) : ∀ {x2 : Int32} {w : St}, f_X7_copies_14_L2 n x2 w = some o → G p l e rm_X7_copies s m args below meth c D A 3 Q (wM ad cI) 0 0 21 [none, none, none] [] o → G p l e rm_X7_copies s m args below meth c D A 3 Q (wM ad cI) 0 0 2 [some (.ref (ad 1)), some (.ref (ad 4)), some (.int x2)] [] w := by
  induction n with
  | zero => intro x2 w hf; cases hf
  | succ n ih =>
    intro x2 w hf k
    rw [f_X7_copies_14_L2] at hf
    refine g_iload_n X (i := 2) dX7_copies_2 rfl rfl ?_
    refine g_sipush X dX7_copies_3 (v := 235) (by decide) ?_
    refine g_icmp_ge X dX7_copies_6 (tgt := 21) (by decide) hf (fun c1 hf => ?_) (fun c1 hf => ?_)
    · refine g_aload_n X (i := 1) dX7_copies_9 rfl rfl ?_
      refine g_iload_n X (i := 2) dX7_copies_10 rfl rfl ?_
      refine g_aload_n X (i := 0) dX7_copies_11 rfl rfl ?_
      refine g_iload_n X (i := 2) dX7_copies_12 rfl rfl ?_
      obtain ⟨hb2, hf⟩ := hfg hf
      refine g_iald X (q0 := 1) (f := w.2 0) dX7_copies_13 rfl hb2 ?_
      obtain ⟨hb3, hf⟩ := hfg hf
      refine g_iast X (q0 := 4) (f := w.2 3) dX7_copies_14 rfl hb3 (awM_3 ad cI _ _ _) ?_
      refine g_iinc X (i := 2) (v := 1) dX7_copies_15 rfl (by decide) (by decide) rfl ?_
      refine g_goto X dX7_copies_18 (tgt := 2) (by decide) ?_
      exact ih hf k
    · obtain rfl := Option.some.inj hf
      refine g_sub (losub (lo' := [none, none, none]) trivial) ?_
      exact k
set_option maxRecDepth 100000 in
set_option maxHeartbeats 4000000 in
theorem c_X7_copies_14 {l : Launch} {D : va_G} {cI : ClassId × ClassId} {A : Nat → Prop} {ad : Nat → Nat} {w : St} {o : Int32 × St} (hf : f_X7_copies_14 w = some o) : CTv l D cI A yX7_copies cX7_copies 3 (none) rm_X7_copies [.ref (ad 1), .ref (ad 4)] ((wM ad cI) w) ((wM ad cI) o.2)   := by
  refine CTv.of (by decide +kernel) rfl (Nat.le_of_ble_eq_true rfl) ?_
  intro p e s m args below meth c X hr
  have X : gX p s m args meth c cX7_copies 3 RX7 D cI := X
  show G _ _ _ _ _ _ _ _ _ _ _ _ _ _ _ _ _ 0 [some (.ref (ad 1)), some (.ref (ad 4)), none] [] w
  unfold f_X7_copies_14 at hf
  refine g_iconst X dX7_copies_0 (v := 0) (by decide) ?_
  refine g_istore_n X (i := 2) dX7_copies_1 rfl (by decide) rfl ?_
  obtain ⟨o4, h5, hf⟩ := hfb hf
  refine gl_X7_copies_14_L2 X BIG h5 ?_
  exact g_vret X hr dX7_copies_21 hf
def f_X7_copies_41_L2 : Nat → Int32 → St → Option (St)
  | 0, _, _ => none
  | n + 1, x2, w => (if x2 < 235 then if ib x2 235 then if ib x2 235 then f_X7_copies_41_L2 n (x2 + 1) (sA w 0 x2 (w.2 3 x2.toNatClampNeg)) else none else none else some (w))
def f_X7_copies_41 (w : St) : Option (Int32 × St) := (f_X7_copies_41_L2 BIG 0 w).bind fun o4 => some (0, o4)
set_option maxRecDepth 100000 in
set_option maxHeartbeats 4000000 in
theorem gl_X7_copies_41_L2 {p : Program} {l : Launch} {e : Env} {s : State} {m : MethodId} {args : Array Value} {below : List Frame} {meth : Method} {c : Code} {D : va_G} {A : Nat → Prop} {cI : ClassId × ClassId} {ad : Nat → Nat} {Q : State → Prop} {o : St} (X : gX p s m args meth c cX7_copies 3 RX7 D cI) (n : Nat) : ∀ {x2 : Int32} {w : St}, f_X7_copies_41_L2 n x2 w = some o → G p l e rm_X7_copies s m args below meth c D A 3 Q (wM ad cI) 0 0 21 [none, none, none] [] o → G p l e rm_X7_copies s m args below meth c D A 3 Q (wM ad cI) 0 0 2 [some (.ref (ad 4)), some (.ref (ad 1)), some (.int x2)] [] w := by
  induction n with
  | zero => intro x2 w hf; cases hf
  | succ n ih =>
    intro x2 w hf k
    rw [f_X7_copies_41_L2] at hf
    refine g_iload_n X (i := 2) dX7_copies_2 rfl rfl ?_
    refine g_sipush X dX7_copies_3 (v := 235) (by decide) ?_
    refine g_icmp_ge X dX7_copies_6 (tgt := 21) (by decide) hf (fun c1 hf => ?_) (fun c1 hf => ?_)
    · refine g_aload_n X (i := 1) dX7_copies_9 rfl rfl ?_
      refine g_iload_n X (i := 2) dX7_copies_10 rfl rfl ?_
      refine g_aload_n X (i := 0) dX7_copies_11 rfl rfl ?_
      refine g_iload_n X (i := 2) dX7_copies_12 rfl rfl ?_
      obtain ⟨hb2, hf⟩ := hfg hf
      refine g_iald X (q0 := 4) (f := w.2 3) dX7_copies_13 rfl hb2 ?_
      obtain ⟨hb3, hf⟩ := hfg hf
      refine g_iast X (q0 := 1) (f := w.2 0) dX7_copies_14 rfl hb3 (awM_0 ad cI _ _ _) ?_
      refine g_iinc X (i := 2) (v := 1) dX7_copies_15 rfl (by decide) (by decide) rfl ?_
      refine g_goto X dX7_copies_18 (tgt := 2) (by decide) ?_
      exact ih hf k
    · obtain rfl := Option.some.inj hf
      refine g_sub (losub (lo' := [none, none, none]) trivial) ?_
      exact k
set_option maxRecDepth 100000 in
set_option maxHeartbeats 4000000 in
theorem c_X7_copies_41 {l : Launch} {D : va_G} {cI : ClassId × ClassId} {A : Nat → Prop} {ad : Nat → Nat} {w : St} {o : Int32 × St} (hf : f_X7_copies_41 w = some o) : CTv l D cI A yX7_copies cX7_copies 3 (none) rm_X7_copies [.ref (ad 4), .ref (ad 1)] ((wM ad cI) w) ((wM ad cI) o.2)   := by
  refine CTv.of (by decide +kernel) rfl (Nat.le_of_ble_eq_true rfl) ?_
  intro p e s m args below meth c X hr
  have X : gX p s m args meth c cX7_copies 3 RX7 D cI := X
  show G _ _ _ _ _ _ _ _ _ _ _ _ _ _ _ _ _ 0 [some (.ref (ad 4)), some (.ref (ad 1)), none] [] w
  unfold f_X7_copies_41 at hf
  refine g_iconst X dX7_copies_0 (v := 0) (by decide) ?_
  refine g_istore_n X (i := 2) dX7_copies_1 rfl (by decide) rfl ?_
  obtain ⟨o4, h5, hf⟩ := hfb hf
  refine gl_X7_copies_41_L2 X BIG h5 ?_
  exact g_vret X hr dX7_copies_21 hf
def f_X7_copies_15_L2 : Nat → Int32 → St → Option (St)
  | 0, _, _ => none
  | n + 1, x2, w => (if x2 < 235 then if ib x2 235 then if ib x2 235 then f_X7_copies_15_L2 n (x2 + 1) (sA w 4 x2 (w.2 0 x2.toNatClampNeg)) else none else none else some (w))
def f_X7_copies_15 (w : St) : Option (Int32 × St) := (f_X7_copies_15_L2 BIG 0 w).bind fun o4 => some (0, o4)
set_option maxRecDepth 100000 in
set_option maxHeartbeats 4000000 in
theorem gl_X7_copies_15_L2 {p : Program} {l : Launch} {e : Env} {s : State} {m : MethodId} {args : Array Value} {below : List Frame} {meth : Method} {c : Code} {D : va_G} {A : Nat → Prop} {cI : ClassId × ClassId} {ad : Nat → Nat} {Q : State → Prop} {o : St} (X : gX p s m args meth c cX7_copies 3 RX7 D cI) (n : Nat) : ∀ {x2 : Int32} {w : St}, f_X7_copies_15_L2 n x2 w = some o → G p l e rm_X7_copies s m args below meth c D A 3 Q (wM ad cI) 0 0 21 [none, none, none] [] o → G p l e rm_X7_copies s m args below meth c D A 3 Q (wM ad cI) 0 0 2 [some (.ref (ad 1)), some (.ref (ad 5)), some (.int x2)] [] w := by
  induction n with
  | zero => intro x2 w hf; cases hf
  | succ n ih =>
    intro x2 w hf k
    rw [f_X7_copies_15_L2] at hf
    refine g_iload_n X (i := 2) dX7_copies_2 rfl rfl ?_
    refine g_sipush X dX7_copies_3 (v := 235) (by decide) ?_
    refine g_icmp_ge X dX7_copies_6 (tgt := 21) (by decide) hf (fun c1 hf => ?_) (fun c1 hf => ?_)
    · refine g_aload_n X (i := 1) dX7_copies_9 rfl rfl ?_
      refine g_iload_n X (i := 2) dX7_copies_10 rfl rfl ?_
      refine g_aload_n X (i := 0) dX7_copies_11 rfl rfl ?_
      refine g_iload_n X (i := 2) dX7_copies_12 rfl rfl ?_
      obtain ⟨hb2, hf⟩ := hfg hf
      refine g_iald X (q0 := 1) (f := w.2 0) dX7_copies_13 rfl hb2 ?_
      obtain ⟨hb3, hf⟩ := hfg hf
      refine g_iast X (q0 := 5) (f := w.2 4) dX7_copies_14 rfl hb3 (awM_4 ad cI _ _ _) ?_
      refine g_iinc X (i := 2) (v := 1) dX7_copies_15 rfl (by decide) (by decide) rfl ?_
      refine g_goto X dX7_copies_18 (tgt := 2) (by decide) ?_
      exact ih hf k
    · obtain rfl := Option.some.inj hf
      refine g_sub (losub (lo' := [none, none, none]) trivial) ?_
      exact k
set_option maxRecDepth 100000 in
set_option maxHeartbeats 4000000 in
theorem c_X7_copies_15 {l : Launch} {D : va_G} {cI : ClassId × ClassId} {A : Nat → Prop} {ad : Nat → Nat} {w : St} {o : Int32 × St} (hf : f_X7_copies_15 w = some o) : CTv l D cI A yX7_copies cX7_copies 3 (none) rm_X7_copies [.ref (ad 1), .ref (ad 5)] ((wM ad cI) w) ((wM ad cI) o.2)   := by
  refine CTv.of (by decide +kernel) rfl (Nat.le_of_ble_eq_true rfl) ?_
  intro p e s m args below meth c X hr
  have X : gX p s m args meth c cX7_copies 3 RX7 D cI := X
  show G _ _ _ _ _ _ _ _ _ _ _ _ _ _ _ _ _ 0 [some (.ref (ad 1)), some (.ref (ad 5)), none] [] w
  unfold f_X7_copies_15 at hf
  refine g_iconst X dX7_copies_0 (v := 0) (by decide) ?_
  refine g_istore_n X (i := 2) dX7_copies_1 rfl (by decide) rfl ?_
  obtain ⟨o4, h5, hf⟩ := hfb hf
  refine gl_X7_copies_15_L2 X BIG h5 ?_
  exact g_vret X hr dX7_copies_21 hf
def f_X7_copies_51_L2 : Nat → Int32 → St → Option (St)
  | 0, _, _ => none
  | n + 1, x2, w => (if x2 < 235 then if ib x2 235 then if ib x2 235 then f_X7_copies_51_L2 n (x2 + 1) (sA w 0 x2 (w.2 4 x2.toNatClampNeg)) else none else none else some (w))
def f_X7_copies_51 (w : St) : Option (Int32 × St) := (f_X7_copies_51_L2 BIG 0 w).bind fun o4 => some (0, o4)
set_option maxRecDepth 100000 in
set_option maxHeartbeats 4000000 in
theorem gl_X7_copies_51_L2 {p : Program} {l : Launch} {e : Env} {s : State} {m : MethodId} {args : Array Value} {below : List Frame} {meth : Method} {c : Code} {D : va_G} {A : Nat → Prop} {cI : ClassId × ClassId} {ad : Nat → Nat} {Q : State → Prop} {o : St} (X : gX p s m args meth c cX7_copies 3 RX7 D cI) (n : Nat) : ∀ {x2 : Int32} {w : St}, f_X7_copies_51_L2 n x2 w = some o → G p l e rm_X7_copies s m args below meth c D A 3 Q (wM ad cI) 0 0 21 [none, none, none] [] o → G p l e rm_X7_copies s m args below meth c D A 3 Q (wM ad cI) 0 0 2 [some (.ref (ad 5)), some (.ref (ad 1)), some (.int x2)] [] w := by
  induction n with
  | zero => intro x2 w hf; cases hf
  | succ n ih =>
    intro x2 w hf k
    rw [f_X7_copies_51_L2] at hf
    refine g_iload_n X (i := 2) dX7_copies_2 rfl rfl ?_
    refine g_sipush X dX7_copies_3 (v := 235) (by decide) ?_
    refine g_icmp_ge X dX7_copies_6 (tgt := 21) (by decide) hf (fun c1 hf => ?_) (fun c1 hf => ?_)
    · refine g_aload_n X (i := 1) dX7_copies_9 rfl rfl ?_
      refine g_iload_n X (i := 2) dX7_copies_10 rfl rfl ?_
      refine g_aload_n X (i := 0) dX7_copies_11 rfl rfl ?_
      refine g_iload_n X (i := 2) dX7_copies_12 rfl rfl ?_
      obtain ⟨hb2, hf⟩ := hfg hf
      refine g_iald X (q0 := 5) (f := w.2 4) dX7_copies_13 rfl hb2 ?_
      obtain ⟨hb3, hf⟩ := hfg hf
      refine g_iast X (q0 := 1) (f := w.2 0) dX7_copies_14 rfl hb3 (awM_0 ad cI _ _ _) ?_
      refine g_iinc X (i := 2) (v := 1) dX7_copies_15 rfl (by decide) (by decide) rfl ?_
      refine g_goto X dX7_copies_18 (tgt := 2) (by decide) ?_
      exact ih hf k
    · obtain rfl := Option.some.inj hf
      refine g_sub (losub (lo' := [none, none, none]) trivial) ?_
      exact k
set_option maxRecDepth 100000 in
set_option maxHeartbeats 4000000 in
theorem c_X7_copies_51 {l : Launch} {D : va_G} {cI : ClassId × ClassId} {A : Nat → Prop} {ad : Nat → Nat} {w : St} {o : Int32 × St} (hf : f_X7_copies_51 w = some o) : CTv l D cI A yX7_copies cX7_copies 3 (none) rm_X7_copies [.ref (ad 5), .ref (ad 1)] ((wM ad cI) w) ((wM ad cI) o.2)   := by
  refine CTv.of (by decide +kernel) rfl (Nat.le_of_ble_eq_true rfl) ?_
  intro p e s m args below meth c X hr
  have X : gX p s m args meth c cX7_copies 3 RX7 D cI := X
  show G _ _ _ _ _ _ _ _ _ _ _ _ _ _ _ _ _ 0 [some (.ref (ad 5)), some (.ref (ad 1)), none] [] w
  unfold f_X7_copies_51 at hf
  refine g_iconst X dX7_copies_0 (v := 0) (by decide) ?_
  refine g_istore_n X (i := 2) dX7_copies_1 rfl (by decide) rfl ?_
  obtain ⟨o4, h5, hf⟩ := hfb hf
  refine gl_X7_copies_51_L2 X BIG h5 ?_
  exact g_vret X hr dX7_copies_21 hf
def f_X7_changes_L18 : Nat → Int32 → St → Option (St)
  | 0, _, _ => none
  | n + 1, x1, w => (if x1 < 705 then if ib (x1 + 235) 940 then if ib x1 940 then f_X7_changes_L18 n (x1 + 1) (sA w 1 x1 (w.2 1 (x1 + 235).toNatClampNeg)) else none else none else some (w))
def f_X7_changes_L59 : Nat → Int32 → St → Option (St)
  | 0, _, _ => none
  | n + 1, x1, w => (if x1 < 235 then if ib x1 235 then if ib ((235 * (w.1 1)) + x1) 940 then f_X7_changes_L59 n (x1 + 1) (sA w 1 ((235 * (w.1 1)) + x1) (w.2 0 x1.toNatClampNeg)) else none else none else some (w))
def f_X7_changes (w : St) : Option (Int32 × St) := (if (w.1 2) = 0 then (if (w.1 1) = 4 then (f_X7_changes_L18 BIG 0 w).bind fun o6 => (f_X7_changes_L59 BIG 0 (sR o6 1 ((o6.1 1) - 1))).bind fun o11 => some (0, sR o11 1 ((o11.1 1) + 1)) else (f_X7_changes_L59 BIG 0 w).bind fun o13 => some (0, sR o13 1 ((o13.1 1) + 1))) else some (0, w))
set_option maxRecDepth 100000 in
set_option maxHeartbeats 4000000 in
theorem gl_X7_changes_L18 {p : Program} {l : Launch} {e : Env} {s : State} {m : MethodId} {args : Array Value} {below : List Frame} {meth : Method} {c : Code} {D : va_G} {A : Nat → Prop} {cI : ClassId × ClassId} {ad : Nat → Nat} {Q : State → Prop} {o : St} (X : gX p s m args meth c cX7_changes 2 RX7 D cI) (n : Nat) : ∀ {x1 : Int32} {w : St}, f_X7_changes_L18 n x1 w = some o → G p l e rm_X7_changes s m args below meth c D A 2 Q (wM ad cI) 0 0 47 [some (.ref (ad 0)), none] [] o → G p l e rm_X7_changes s m args below meth c D A 2 Q (wM ad cI) 0 0 18 [some (.ref (ad 0)), some (.int x1)] [] w := by
  induction n with
  | zero => intro x1 w hf; cases hf
  | succ n ih =>
    intro x1 w hf k
    rw [f_X7_changes_L18] at hf
    refine g_iload_n X (i := 1) dX7_changes_18 rfl rfl ?_
    refine g_sipush X dX7_changes_19 (v := 705) (by decide) ?_
    refine g_icmp_ge X dX7_changes_22 (tgt := 47) (by decide) hf (fun c3 hf => ?_) (fun c3 hf => ?_)
    · refine g_aload_n X (i := 0) dX7_changes_25 rfl rfl ?_
      refine g_get X (q0 := 0) (v := .ref (ad 2)) 1 dX7_changes_26 gC_X7 rfl rfl (by decide) fl_X7_13 rfl rfl ?_
      refine g_iload_n X (i := 1) dX7_changes_29 rfl rfl ?_
      refine g_aload_n X (i := 0) dX7_changes_30 rfl rfl ?_
      refine g_get X (q0 := 0) (v := .ref (ad 2)) 1 dX7_changes_31 gC_X7 rfl rfl (by decide) fl_X7_13 rfl rfl ?_
      refine g_iload_n X (i := 1) dX7_changes_34 rfl rfl ?_
      refine g_sipush X dX7_changes_35 (v := 235) (by decide) ?_
      refine g_iadd X dX7_changes_38 ?_
      obtain ⟨hb4, hf⟩ := hfg hf
      refine g_iald X (q0 := 2) (f := w.2 1) dX7_changes_39 rfl hb4 ?_
      obtain ⟨hb5, hf⟩ := hfg hf
      refine g_iast X (q0 := 2) (f := w.2 1) dX7_changes_40 rfl hb5 (awM_1 ad cI _ _ _) ?_
      refine g_iinc X (i := 1) (v := 1) dX7_changes_41 rfl (by decide) (by decide) rfl ?_
      refine g_goto X dX7_changes_44 (tgt := 18) (by decide) ?_
      exact ih hf k
    · obtain rfl := Option.some.inj hf
      refine g_sub (losub (lo' := [some (.ref (ad 0)), none]) ⟨rfl, trivial⟩) ?_
      exact k
set_option maxRecDepth 100000 in
set_option maxHeartbeats 4000000 in
theorem gl_X7_changes_L59 {p : Program} {l : Launch} {e : Env} {s : State} {m : MethodId} {args : Array Value} {below : List Frame} {meth : Method} {c : Code} {D : va_G} {A : Nat → Prop} {cI : ClassId × ClassId} {ad : Nat → Nat} {Q : State → Prop} {o : St} (X : gX p s m args meth c cX7_changes 2 RX7 D cI) (n : Nat) : ∀ {x1 : Int32} {w : St}, f_X7_changes_L59 n x1 w = some o → G p l e rm_X7_changes s m args below meth c D A 2 Q (wM ad cI) 0 0 93 [some (.ref (ad 0)), none] [] o → G p l e rm_X7_changes s m args below meth c D A 2 Q (wM ad cI) 0 0 59 [some (.ref (ad 0)), some (.int x1)] [] w := by
  induction n with
  | zero => intro x1 w hf; cases hf
  | succ n ih =>
    intro x1 w hf k
    rw [f_X7_changes_L59] at hf
    refine g_iload_n X (i := 1) dX7_changes_59 rfl rfl ?_
    refine g_sipush X dX7_changes_60 (v := 235) (by decide) ?_
    refine g_icmp_ge X dX7_changes_63 (tgt := 93) (by decide) hf (fun c8 hf => ?_) (fun c8 hf => ?_)
    · refine g_aload_n X (i := 0) dX7_changes_66 rfl rfl ?_
      refine g_get X (q0 := 0) (v := .ref (ad 2)) 1 dX7_changes_67 gC_X7 rfl rfl (by decide) fl_X7_13 rfl rfl ?_
      refine g_sipush X dX7_changes_70 (v := 235) (by decide) ?_
      refine g_aload_n X (i := 0) dX7_changes_73 rfl rfl ?_
      refine g_get X (q0 := 0) (v := .int (w.1 1)) 6 dX7_changes_74 gC_X7 rfl rfl (by decide) fl_X7_35 rfl rfl ?_
      refine g_imul X dX7_changes_77 ?_
      refine g_iload_n X (i := 1) dX7_changes_78 rfl rfl ?_
      refine g_iadd X dX7_changes_79 ?_
      refine g_aload_n X (i := 0) dX7_changes_80 rfl rfl ?_
      refine g_get X (q0 := 0) (v := .ref (ad 1)) 0 dX7_changes_81 gC_X7 rfl rfl (by decide) fl_X7_7 rfl rfl ?_
      refine g_iload_n X (i := 1) dX7_changes_84 rfl rfl ?_
      obtain ⟨hb9, hf⟩ := hfg hf
      refine g_iald X (q0 := 1) (f := w.2 0) dX7_changes_85 rfl hb9 ?_
      obtain ⟨hb10, hf⟩ := hfg hf
      refine g_iast X (q0 := 2) (f := w.2 1) dX7_changes_86 rfl hb10 (awM_1 ad cI _ _ _) ?_
      refine g_iinc X (i := 1) (v := 1) dX7_changes_87 rfl (by decide) (by decide) rfl ?_
      refine g_goto X dX7_changes_90 (tgt := 59) (by decide) ?_
      exact ih hf k
    · obtain rfl := Option.some.inj hf
      refine g_sub (losub (lo' := [some (.ref (ad 0)), none]) ⟨rfl, trivial⟩) ?_
      exact k
set_option maxRecDepth 100000 in
set_option maxHeartbeats 4000000 in
theorem c_X7_changes {l : Launch} {D : va_G} {cI : ClassId × ClassId} {A : Nat → Prop} {ad : Nat → Nat} {w : St} {o : Int32 × St} (hf : f_X7_changes w = some o) : CTv l D cI A yX7_changes cX7_changes 2 (none) rm_X7_changes [.ref (ad 0)] ((wM ad cI) w) ((wM ad cI) o.2)   := by
  refine CTv.of (by decide +kernel) rfl (Nat.le_of_ble_eq_true rfl) ?_
  intro p e s m args below meth c X hr
  have X : gX p s m args meth c cX7_changes 2 RX7 D cI := X
  show G _ _ _ _ _ _ _ _ _ _ _ _ _ _ _ _ _ 0 [some (.ref (ad 0)), none] [] w
  unfold f_X7_changes at hf
  refine g_aload_n X (i := 0) dX7_changes_0 rfl rfl ?_
  refine g_get X (q0 := 0) (v := .int (w.1 2)) 7 dX7_changes_1 gC_X7 rfl rfl (by decide) fl_X7_31 rfl rfl ?_
  refine g_if_eq X dX7_changes_4 (tgt := 8) (by decide) hf (fun c1 hf => ?_) (fun c1 hf => ?_)
  · refine g_aload_n X (i := 0) dX7_changes_8 rfl rfl ?_
    refine g_get X (q0 := 0) (v := .int (w.1 1)) 6 dX7_changes_9 gC_X7 rfl rfl (by decide) fl_X7_35 rfl rfl ?_
    refine g_iconst X dX7_changes_12 (v := 4) (by decide) ?_
    refine g_icmp_ne X dX7_changes_13 (tgt := 57) (by decide) hf (fun c2 hf => ?_) (fun c2 hf => ?_)
    · refine g_iconst X dX7_changes_16 (v := 0) (by decide) ?_
      refine g_istore_n X (i := 1) dX7_changes_17 rfl (by decide) rfl ?_
      obtain ⟨o6, h7, hf⟩ := hfb hf
      refine gl_X7_changes_L18 X BIG h7 ?_
      refine g_aload_n X (i := 0) dX7_changes_47 rfl rfl ?_
      refine g_dup X dX7_changes_48 rfl ?_
      refine g_get X (q0 := 0) (v := .int (o6.1 1)) 6 dX7_changes_49 gC_X7 rfl rfl (by decide) fl_X7_35 rfl rfl ?_
      refine g_iconst X dX7_changes_52 (v := 1) (by decide) ?_
      refine g_isub X dX7_changes_53 ?_
      refine g_put X (q0 := 0) 6 dX7_changes_54 gC_X7 rfl rfl (by decide) fl_X7_35 rfl rfl rfl rfl (Nat.le_of_ble_eq_true rfl) (pwM_1 ad cI _ _) ?_
      refine g_iconst X dX7_changes_57 (v := 0) (by decide) ?_
      refine g_istore_n X (i := 1) dX7_changes_58 rfl (by decide) rfl ?_
      obtain ⟨o11, h12, hf⟩ := hfb hf
      refine gl_X7_changes_L59 X BIG h12 ?_
      refine g_aload_n X (i := 0) dX7_changes_93 rfl rfl ?_
      refine g_dup X dX7_changes_94 rfl ?_
      refine g_get X (q0 := 0) (v := .int (o11.1 1)) 6 dX7_changes_95 gC_X7 rfl rfl (by decide) fl_X7_35 rfl rfl ?_
      refine g_iconst X dX7_changes_98 (v := 1) (by decide) ?_
      refine g_iadd X dX7_changes_99 ?_
      refine g_put X (q0 := 0) 6 dX7_changes_100 gC_X7 rfl rfl (by decide) fl_X7_35 rfl rfl rfl rfl (Nat.le_of_ble_eq_true rfl) (pwM_1 ad cI _ _) ?_
      exact g_vret X hr dX7_changes_103 hf
    · refine g_iconst X dX7_changes_57 (v := 0) (by decide) ?_
      refine g_istore_n X (i := 1) dX7_changes_58 rfl (by decide) rfl ?_
      obtain ⟨o13, h14, hf⟩ := hfb hf
      refine gl_X7_changes_L59 X BIG h14 ?_
      refine g_aload_n X (i := 0) dX7_changes_93 rfl rfl ?_
      refine g_dup X dX7_changes_94 rfl ?_
      refine g_get X (q0 := 0) (v := .int (o13.1 1)) 6 dX7_changes_95 gC_X7 rfl rfl (by decide) fl_X7_35 rfl rfl ?_
      refine g_iconst X dX7_changes_98 (v := 1) (by decide) ?_
      refine g_iadd X dX7_changes_99 ?_
      refine g_put X (q0 := 0) 6 dX7_changes_100 gC_X7 rfl rfl (by decide) fl_X7_35 rfl rfl rfl rfl (Nat.le_of_ble_eq_true rfl) (pwM_1 ad cI _ _) ?_
      exact g_vret X hr dX7_changes_103 hf
  · exact g_vret X hr dX7_changes_7 hf
def f_X7_of (x1 x2 : Int32) (w : St) : Option (Int32 × St) := if ib ((7 * x1) + x2) 235 then some (w.2 0 ((7 * x1) + x2).toNatClampNeg, w) else none
set_option maxRecDepth 100000 in
set_option maxHeartbeats 4000000 in
theorem c_X7_of {l : Launch} {D : va_G} {cI : ClassId × ClassId} {A : Nat → Prop} {ad : Nat → Nat} {x1 x2 : Int32} {w : St} {o : Int32 × St} (hf : f_X7_of x1 x2 w = some o) : CTi l D cI A yX7_of cX7_of 3 (some .int) rm_X7_of [.ref (ad 0), .int x1, .int x2] ((wM ad cI) w) o.1 ((wM ad cI) o.2)   := by
  refine CTi.of (by decide +kernel) rfl (Nat.le_of_ble_eq_true rfl) ?_
  intro p e s m args below meth c X hr
  have X : gX p s m args meth c cX7_of 3 RX7 D cI := X
  show G _ _ _ _ _ _ _ _ _ _ _ _ _ _ _ _ _ 0 [some (.ref (ad 0)), some (.int x1), some (.int x2)] [] w
  unfold f_X7_of at hf
  refine g_aload_n X (i := 0) dX7_of_0 rfl rfl ?_
  refine g_get X (q0 := 0) (v := .ref (ad 1)) 0 dX7_of_1 gC_X7 rfl rfl (by decide) fl_X7_7 rfl rfl ?_
  refine g_bipush X dX7_of_4 (v := 7) (by decide) ?_
  refine g_iload_n X (i := 1) dX7_of_6 rfl rfl ?_
  refine g_imul X dX7_of_7 ?_
  refine g_iload_n X (i := 2) dX7_of_8 rfl rfl ?_
  refine g_iadd X dX7_of_9 ?_
  obtain ⟨hb1, hf⟩ := hfg hf
  refine g_iald X (q0 := 1) (f := w.2 0) dX7_of_10 rfl hb1 ?_
  exact g_iret X hr dX7_of_11 hf
def f_X7_sets (x1 x2 x3 : Int32) (w : St) : Option (Int32 × St) := if ib ((7 * x1) + x2) 235 then some (0, sA w 0 ((7 * x1) + x2) x3) else none
set_option maxRecDepth 100000 in
set_option maxHeartbeats 4000000 in
theorem c_X7_sets {l : Launch} {D : va_G} {cI : ClassId × ClassId} {A : Nat → Prop} {ad : Nat → Nat} {x1 x2 x3 : Int32} {w : St} {o : Int32 × St} (hf : f_X7_sets x1 x2 x3 w = some o) : CTv l D cI A yX7_sets cX7_sets 4 (none) rm_X7_sets [.ref (ad 0), .int x1, .int x2, .int x3] ((wM ad cI) w) ((wM ad cI) o.2)   := by
  refine CTv.of (by decide +kernel) rfl (Nat.le_of_ble_eq_true rfl) ?_
  intro p e s m args below meth c X hr
  have X : gX p s m args meth c cX7_sets 4 RX7 D cI := X
  show G _ _ _ _ _ _ _ _ _ _ _ _ _ _ _ _ _ 0 [some (.ref (ad 0)), some (.int x1), some (.int x2), some (.int x3)] [] w
  unfold f_X7_sets at hf
  refine g_aload_n X (i := 0) dX7_sets_0 rfl rfl ?_
  refine g_get X (q0 := 0) (v := .ref (ad 1)) 0 dX7_sets_1 gC_X7 rfl rfl (by decide) fl_X7_7 rfl rfl ?_
  refine g_bipush X dX7_sets_4 (v := 7) (by decide) ?_
  refine g_iload_n X (i := 1) dX7_sets_6 rfl rfl ?_
  refine g_imul X dX7_sets_7 ?_
  refine g_iload_n X (i := 2) dX7_sets_8 rfl rfl ?_
  refine g_iadd X dX7_sets_9 ?_
  refine g_iload_n X (i := 3) dX7_sets_10 rfl rfl ?_
  obtain ⟨hb1, hf⟩ := hfg hf
  refine g_iast X (q0 := 1) (f := w.2 0) dX7_sets_11 rfl hb1 (awM_0 ad cI _ _ _) ?_
  exact g_vret X hr dX7_sets_12 hf
def f_X7_shades (x1 : Int32) (w : St) : Option (Int32 × St) := (if x1 < 0 then some (0, w) else (f_X7_of x1 5 w).bind fun o2 => (if o2.1 = 0 then (f_X7_sets x1 5 1 o2.2).bind fun o5 => if ib 168 235 then if ib 168 235 then if ib 168 235 then if ib (168 + ((sA o5.2 0 168 ((o5.2.2 0 (168 : Int32).toNatClampNeg) + 1)).2 0 (168 : Int32).toNatClampNeg)) 235 then some (0, sA (sA o5.2 0 168 ((o5.2.2 0 (168 : Int32).toNatClampNeg) + 1)) 0 (168 + ((sA o5.2 0 168 ((o5.2.2 0 (168 : Int32).toNatClampNeg) + 1)).2 0 (168 : Int32).toNatClampNeg)) x1) else none else none else none else none else some (0, o2.2)))
set_option maxRecDepth 100000 in
set_option maxHeartbeats 4000000 in
theorem c_X7_shades {l : Launch} {D : va_G} {cI : ClassId × ClassId} {A : Nat → Prop} {ad : Nat → Nat} {x1 : Int32} {w : St} {o : Int32 × St} (hf : f_X7_shades x1 w = some o) : CTv l D cI A yX7_shades cX7_shades 2 (none) rm_X7_shades [.ref (ad 0), .int x1] ((wM ad cI) w) ((wM ad cI) o.2)   := by
  refine CTv.of (by decide +kernel) rfl (Nat.le_of_ble_eq_true rfl) ?_
  intro p e s m args below meth c X hr
  have X : gX p s m args meth c cX7_shades 2 RX7 D cI := X
  show G _ _ _ _ _ _ _ _ _ _ _ _ _ _ _ _ _ 0 [some (.ref (ad 0)), some (.int x1)] [] w
  unfold f_X7_shades at hf
  refine g_iload_n X (i := 1) dX7_shades_0 rfl rfl ?_
  refine g_if_lt X dX7_shades_1 (tgt := 50) (by decide) hf (fun c1 hf => ?_) (fun c1 hf => ?_)
  · exact g_vret X hr dX7_shades_50 hf
  · refine g_aload_n X (i := 0) dX7_shades_4 rfl rfl ?_
    refine g_iload_n X (i := 1) dX7_shades_5 rfl rfl ?_
    refine g_iconst X dX7_shades_6 (v := 5) (by decide) ?_
    obtain ⟨o2, h3, hf⟩ := hfb hf
    refine g_Vi X (q0 := 0) (As := [.int x1, .int 5]) (rest := []) (c_X7_of h3) dX7_shades_7 ml_X7_43 yv_X7_of rfl rfl rfl rfl ⟨Nat.le_of_ble_eq_true rfl, Nat.le_of_ble_eq_true rfl⟩ ⟨rfl, rfl⟩ (Nat.le_of_ble_eq_true rfl) ⟨Nat.le_of_ble_eq_true rfl, Nat.le_of_ble_eq_true rfl⟩ ?_
    refine g_if_ne X dX7_shades_10 (tgt := 50) (by decide) hf (fun c4 hf => ?_) (fun c4 hf => ?_)
    · refine g_aload_n X (i := 0) dX7_shades_13 rfl rfl ?_
      refine g_iload_n X (i := 1) dX7_shades_14 rfl rfl ?_
      refine g_iconst X dX7_shades_15 (v := 5) (by decide) ?_
      refine g_iconst X dX7_shades_16 (v := 1) (by decide) ?_
      obtain ⟨o5, h6, hf⟩ := hfb hf
      refine g_Vv X (q0 := 0) (As := [.int x1, .int 5, .int 1]) (rest := []) (c_X7_sets h6) dX7_shades_17 ml_X7_58 yv_X7_sets rfl rfl rfl rfl ⟨Nat.le_of_ble_eq_true rfl, Nat.le_of_ble_eq_true rfl⟩ ⟨rfl, rfl⟩ (Nat.le_of_ble_eq_true rfl) ⟨Nat.le_of_ble_eq_true rfl, Nat.le_of_ble_eq_true rfl⟩ ?_
      refine g_aload_n X (i := 0) dX7_shades_20 rfl rfl ?_
      refine g_get X (q0 := 0) (v := .ref (ad 1)) 0 dX7_shades_21 gC_X7 rfl rfl (by decide) fl_X7_7 rfl rfl ?_
      refine g_sipush X dX7_shades_24 (v := 168) (by decide) ?_
      refine g_dup2 X dX7_shades_27 rfl rfl ?_
      obtain ⟨hb7, hf⟩ := hfg hf
      refine g_iald X (q0 := 1) (f := o5.2.2 0) dX7_shades_28 rfl hb7 ?_
      refine g_iconst X dX7_shades_29 (v := 1) (by decide) ?_
      refine g_iadd X dX7_shades_30 ?_
      obtain ⟨hb8, hf⟩ := hfg hf
      refine g_iast X (q0 := 1) (f := o5.2.2 0) dX7_shades_31 rfl hb8 (awM_0 ad cI _ _ _) ?_
      refine g_aload_n X (i := 0) dX7_shades_32 rfl rfl ?_
      refine g_get X (q0 := 0) (v := .ref (ad 1)) 0 dX7_shades_33 gC_X7 rfl rfl (by decide) fl_X7_7 rfl rfl ?_
      refine g_sipush X dX7_shades_36 (v := 168) (by decide) ?_
      refine g_aload_n X (i := 0) dX7_shades_39 rfl rfl ?_
      refine g_get X (q0 := 0) (v := .ref (ad 1)) 0 dX7_shades_40 gC_X7 rfl rfl (by decide) fl_X7_7 rfl rfl ?_
      refine g_sipush X dX7_shades_43 (v := 168) (by decide) ?_
      obtain ⟨hb9, hf⟩ := hfg hf
      refine g_iald X (q0 := 1) (f := (sA o5.2 0 168 ((o5.2.2 0 (168 : Int32).toNatClampNeg) + 1)).2 0) dX7_shades_46 rfl hb9 ?_
      refine g_iadd X dX7_shades_47 ?_
      refine g_iload_n X (i := 1) dX7_shades_48 rfl rfl ?_
      obtain ⟨hb10, hf⟩ := hfg hf
      refine g_iast X (q0 := 1) (f := (sA o5.2 0 168 ((o5.2.2 0 (168 : Int32).toNatClampNeg) + 1)).2 0) dX7_shades_49 rfl hb10 (awM_0 ad cI _ _ _) ?_
      exact g_vret X hr dX7_shades_50 hf
    · exact g_vret X hr dX7_shades_50 hf
def f_X7_begins_L50 : Nat → Int32 → St → Option (St)
  | 0, _, _ => none
  | n + 1, x1, w => (if x1 < 24 then (f_X7_sets x1 5 0 w).bind fun o8 => (f_X7_of x1 6 o8.2).bind fun o10 => (f_X7_sets x1 6 (o10.1 + 1) o10.2).bind fun o12 => f_X7_begins_L50 n (x1 + 1) o12.2 else some (w))
def f_X7_begins_L87 : Nat → Int32 → St → Option (St)
  | 0, _, _ => none
  | n + 1, x1, w => (if x1 < 4 then if ib (218 + x1) 235 then (f_X7_shades (w.2 0 (218 + x1).toNatClampNeg) w).bind fun o18 => f_X7_begins_L87 n (x1 + 1) o18.2 else none else some (w))
def f_X7_begins_L114 : Nat → Int32 → St → Option (St)
  | 0, _, _ => none
  | n + 1, x1, w => if ib 193 235 then (if x1 < (w.2 0 (193 : Int32).toNatClampNeg) then if ib (194 + x1) 235 then (f_X7_shades (w.2 0 (194 + x1).toNatClampNeg) w).bind fun o25 => f_X7_begins_L114 n (x1 + 1) o25.2 else none else some (w)) else none
def f_X7_begins (w : St) : Option (Int32 × St) := if ib 226 235 then if ib 228 235 then if ib 228 235 then if ib 232 235 then if ib 233 235 then if ib 168 235 then (f_X7_begins_L50 BIG 0 (sA (sA (sA (sA (sA w 0 226 1) 0 228 (((sA w 0 226 1).2 0 (228 : Int32).toNatClampNeg) + 1)) 0 232 0) 0 233 0) 0 168 0)).bind fun o14 => (f_X7_begins_L87 BIG 0 o14).bind fun o20 => (f_X7_begins_L114 BIG 0 o20).bind fun o27 => some (0, o27) else none else none else none else none else none else none
set_option maxRecDepth 100000 in
set_option maxHeartbeats 4000000 in
theorem gl_X7_begins_L50 {p : Program} {l : Launch} {e : Env} {s : State} {m : MethodId} {args : Array Value} {below : List Frame} {meth : Method} {c : Code} {D : va_G} {A : Nat → Prop} {cI : ClassId × ClassId} {ad : Nat → Nat} {Q : State → Prop} {o : St} (X : gX p s m args meth c cX7_begins 2 RX7 D cI) (n : Nat) : ∀ {x1 : Int32} {w : St}, f_X7_begins_L50 n x1 w = some o → G p l e rm_X7_begins s m args below meth c D A 2 Q (wM ad cI) 0 0 85 [some (.ref (ad 0)), none] [] o → G p l e rm_X7_begins s m args below meth c D A 2 Q (wM ad cI) 0 0 50 [some (.ref (ad 0)), some (.int x1)] [] w := by
  induction n with
  | zero => intro x1 w hf; cases hf
  | succ n ih =>
    intro x1 w hf k
    rw [f_X7_begins_L50] at hf
    refine g_iload_n X (i := 1) dX7_begins_50 rfl rfl ?_
    refine g_bipush X dX7_begins_51 (v := 24) (by decide) ?_
    refine g_icmp_ge X dX7_begins_53 (tgt := 85) (by decide) hf (fun c7 hf => ?_) (fun c7 hf => ?_)
    · refine g_aload_n X (i := 0) dX7_begins_56 rfl rfl ?_
      refine g_iload_n X (i := 1) dX7_begins_57 rfl rfl ?_
      refine g_iconst X dX7_begins_58 (v := 5) (by decide) ?_
      refine g_iconst X dX7_begins_59 (v := 0) (by decide) ?_
      obtain ⟨o8, h9, hf⟩ := hfb hf
      refine g_Vv X (q0 := 0) (As := [.int x1, .int 5, .int 0]) (rest := []) (c_X7_sets h9) dX7_begins_60 ml_X7_58 yv_X7_sets rfl rfl rfl rfl ⟨Nat.le_of_ble_eq_true rfl, Nat.le_of_ble_eq_true rfl⟩ ⟨rfl, rfl⟩ (Nat.le_of_ble_eq_true rfl) ⟨Nat.le_of_ble_eq_true rfl, Nat.le_of_ble_eq_true rfl⟩ ?_
      refine g_aload_n X (i := 0) dX7_begins_63 rfl rfl ?_
      refine g_iload_n X (i := 1) dX7_begins_64 rfl rfl ?_
      refine g_bipush X dX7_begins_65 (v := 6) (by decide) ?_
      refine g_aload_n X (i := 0) dX7_begins_67 rfl rfl ?_
      refine g_iload_n X (i := 1) dX7_begins_68 rfl rfl ?_
      refine g_bipush X dX7_begins_69 (v := 6) (by decide) ?_
      obtain ⟨o10, h11, hf⟩ := hfb hf
      refine g_Vi X (q0 := 0) (As := [.int x1, .int 6]) (rest := [.int 6, .int x1, .ref (ad 0)]) (c_X7_of h11) dX7_begins_71 ml_X7_43 yv_X7_of rfl rfl rfl rfl ⟨Nat.le_of_ble_eq_true rfl, Nat.le_of_ble_eq_true rfl⟩ ⟨rfl, rfl⟩ (Nat.le_of_ble_eq_true rfl) ⟨Nat.le_of_ble_eq_true rfl, Nat.le_of_ble_eq_true rfl⟩ ?_
      refine g_iconst X dX7_begins_74 (v := 1) (by decide) ?_
      refine g_iadd X dX7_begins_75 ?_
      obtain ⟨o12, h13, hf⟩ := hfb hf
      refine g_Vv X (q0 := 0) (As := [.int x1, .int 6, .int (o10.1 + 1)]) (rest := []) (c_X7_sets h13) dX7_begins_76 ml_X7_58 yv_X7_sets rfl rfl rfl rfl ⟨Nat.le_of_ble_eq_true rfl, Nat.le_of_ble_eq_true rfl⟩ ⟨rfl, rfl⟩ (Nat.le_of_ble_eq_true rfl) ⟨Nat.le_of_ble_eq_true rfl, Nat.le_of_ble_eq_true rfl⟩ ?_
      refine g_iinc X (i := 1) (v := 1) dX7_begins_79 rfl (by decide) (by decide) rfl ?_
      refine g_goto X dX7_begins_82 (tgt := 50) (by decide) ?_
      exact ih hf k
    · obtain rfl := Option.some.inj hf
      refine g_sub (losub (lo' := [some (.ref (ad 0)), none]) ⟨rfl, trivial⟩) ?_
      exact k
set_option maxRecDepth 100000 in
set_option maxHeartbeats 4000000 in
theorem gl_X7_begins_L87 {p : Program} {l : Launch} {e : Env} {s : State} {m : MethodId} {args : Array Value} {below : List Frame} {meth : Method} {c : Code} {D : va_G} {A : Nat → Prop} {cI : ClassId × ClassId} {ad : Nat → Nat} {Q : State → Prop} {o : St} (X : gX p s m args meth c cX7_begins 2 RX7 D cI) (n : Nat) : ∀ {x1 : Int32} {w : St}, f_X7_begins_L87 n x1 w = some o → G p l e rm_X7_begins s m args below meth c D A 2 Q (wM ad cI) 0 0 112 [some (.ref (ad 0)), none] [] o → G p l e rm_X7_begins s m args below meth c D A 2 Q (wM ad cI) 0 0 87 [some (.ref (ad 0)), some (.int x1)] [] w := by
  induction n with
  | zero => intro x1 w hf; cases hf
  | succ n ih =>
    intro x1 w hf k
    rw [f_X7_begins_L87] at hf
    refine g_iload_n X (i := 1) dX7_begins_87 rfl rfl ?_
    refine g_iconst X dX7_begins_88 (v := 4) (by decide) ?_
    refine g_icmp_ge X dX7_begins_89 (tgt := 112) (by decide) hf (fun c16 hf => ?_) (fun c16 hf => ?_)
    · refine g_aload_n X (i := 0) dX7_begins_92 rfl rfl ?_
      refine g_aload_n X (i := 0) dX7_begins_93 rfl rfl ?_
      refine g_get X (q0 := 0) (v := .ref (ad 1)) 0 dX7_begins_94 gC_X7 rfl rfl (by decide) fl_X7_7 rfl rfl ?_
      refine g_sipush X dX7_begins_97 (v := 218) (by decide) ?_
      refine g_iload_n X (i := 1) dX7_begins_100 rfl rfl ?_
      refine g_iadd X dX7_begins_101 ?_
      obtain ⟨hb17, hf⟩ := hfg hf
      refine g_iald X (q0 := 1) (f := w.2 0) dX7_begins_102 rfl hb17 ?_
      obtain ⟨o18, h19, hf⟩ := hfb hf
      refine g_Vv X (q0 := 0) (As := [.int (w.2 0 (218 + x1).toNatClampNeg)]) (rest := []) (c_X7_shades h19) dX7_begins_103 ml_X7_66 yv_X7_shades rfl rfl rfl rfl ⟨Nat.le_of_ble_eq_true rfl, Nat.le_of_ble_eq_true rfl⟩ ⟨rfl, rfl⟩ (Nat.le_of_ble_eq_true rfl) ⟨Nat.le_of_ble_eq_true rfl, Nat.le_of_ble_eq_true rfl⟩ ?_
      refine g_iinc X (i := 1) (v := 1) dX7_begins_106 rfl (by decide) (by decide) rfl ?_
      refine g_goto X dX7_begins_109 (tgt := 87) (by decide) ?_
      exact ih hf k
    · obtain rfl := Option.some.inj hf
      refine g_sub (losub (lo' := [some (.ref (ad 0)), none]) ⟨rfl, trivial⟩) ?_
      exact k
set_option maxRecDepth 100000 in
set_option maxHeartbeats 4000000 in
theorem gl_X7_begins_L114 {p : Program} {l : Launch} {e : Env} {s : State} {m : MethodId} {args : Array Value} {below : List Frame} {meth : Method} {c : Code} {D : va_G} {A : Nat → Prop} {cI : ClassId × ClassId} {ad : Nat → Nat} {Q : State → Prop} {o : St} (X : gX p s m args meth c cX7_begins 2 RX7 D cI) (n : Nat) : ∀ {x1 : Int32} {w : St}, f_X7_begins_L114 n x1 w = some o → G p l e rm_X7_begins s m args below meth c D A 2 Q (wM ad cI) 0 0 146 [none, none] [] o → G p l e rm_X7_begins s m args below meth c D A 2 Q (wM ad cI) 0 0 114 [some (.ref (ad 0)), some (.int x1)] [] w := by
  induction n with
  | zero => intro x1 w hf; cases hf
  | succ n ih =>
    intro x1 w hf k
    rw [f_X7_begins_L114] at hf
    refine g_iload_n X (i := 1) dX7_begins_114 rfl rfl ?_
    refine g_aload_n X (i := 0) dX7_begins_115 rfl rfl ?_
    refine g_get X (q0 := 0) (v := .ref (ad 1)) 0 dX7_begins_116 gC_X7 rfl rfl (by decide) fl_X7_7 rfl rfl ?_
    refine g_sipush X dX7_begins_119 (v := 193) (by decide) ?_
    obtain ⟨hb22, hf⟩ := hfg hf
    refine g_iald X (q0 := 1) (f := w.2 0) dX7_begins_122 rfl hb22 ?_
    refine g_icmp_ge X dX7_begins_123 (tgt := 146) (by decide) hf (fun c23 hf => ?_) (fun c23 hf => ?_)
    · refine g_aload_n X (i := 0) dX7_begins_126 rfl rfl ?_
      refine g_aload_n X (i := 0) dX7_begins_127 rfl rfl ?_
      refine g_get X (q0 := 0) (v := .ref (ad 1)) 0 dX7_begins_128 gC_X7 rfl rfl (by decide) fl_X7_7 rfl rfl ?_
      refine g_sipush X dX7_begins_131 (v := 194) (by decide) ?_
      refine g_iload_n X (i := 1) dX7_begins_134 rfl rfl ?_
      refine g_iadd X dX7_begins_135 ?_
      obtain ⟨hb24, hf⟩ := hfg hf
      refine g_iald X (q0 := 1) (f := w.2 0) dX7_begins_136 rfl hb24 ?_
      obtain ⟨o25, h26, hf⟩ := hfb hf
      refine g_Vv X (q0 := 0) (As := [.int (w.2 0 (194 + x1).toNatClampNeg)]) (rest := []) (c_X7_shades h26) dX7_begins_137 ml_X7_66 yv_X7_shades rfl rfl rfl rfl ⟨Nat.le_of_ble_eq_true rfl, Nat.le_of_ble_eq_true rfl⟩ ⟨rfl, rfl⟩ (Nat.le_of_ble_eq_true rfl) ⟨Nat.le_of_ble_eq_true rfl, Nat.le_of_ble_eq_true rfl⟩ ?_
      refine g_iinc X (i := 1) (v := 1) dX7_begins_140 rfl (by decide) (by decide) rfl ?_
      refine g_goto X dX7_begins_143 (tgt := 114) (by decide) ?_
      exact ih hf k
    · obtain rfl := Option.some.inj hf
      refine g_sub (losub (lo' := [none, none]) trivial) ?_
      exact k
set_option maxRecDepth 100000 in
set_option maxHeartbeats 4000000 in
theorem c_X7_begins {l : Launch} {D : va_G} {cI : ClassId × ClassId} {A : Nat → Prop} {ad : Nat → Nat} {w : St} {o : Int32 × St} (hf : f_X7_begins w = some o) : CTv l D cI A yX7_begins cX7_begins 2 (none) rm_X7_begins [.ref (ad 0)] ((wM ad cI) w) ((wM ad cI) o.2)   := by
  refine CTv.of (by decide +kernel) rfl (Nat.le_of_ble_eq_true rfl) ?_
  intro p e s m args below meth c X hr
  have X : gX p s m args meth c cX7_begins 2 RX7 D cI := X
  show G _ _ _ _ _ _ _ _ _ _ _ _ _ _ _ _ _ 0 [some (.ref (ad 0)), none] [] w
  unfold f_X7_begins at hf
  refine g_aload_n X (i := 0) dX7_begins_0 rfl rfl ?_
  refine g_get X (q0 := 0) (v := .ref (ad 1)) 0 dX7_begins_1 gC_X7 rfl rfl (by decide) fl_X7_7 rfl rfl ?_
  refine g_sipush X dX7_begins_4 (v := 226) (by decide) ?_
  refine g_iconst X dX7_begins_7 (v := 1) (by decide) ?_
  obtain ⟨hb1, hf⟩ := hfg hf
  refine g_iast X (q0 := 1) (f := w.2 0) dX7_begins_8 rfl hb1 (awM_0 ad cI _ _ _) ?_
  refine g_aload_n X (i := 0) dX7_begins_9 rfl rfl ?_
  refine g_get X (q0 := 0) (v := .ref (ad 1)) 0 dX7_begins_10 gC_X7 rfl rfl (by decide) fl_X7_7 rfl rfl ?_
  refine g_sipush X dX7_begins_13 (v := 228) (by decide) ?_
  refine g_dup2 X dX7_begins_16 rfl rfl ?_
  obtain ⟨hb2, hf⟩ := hfg hf
  refine g_iald X (q0 := 1) (f := (sA w 0 226 1).2 0) dX7_begins_17 rfl hb2 ?_
  refine g_iconst X dX7_begins_18 (v := 1) (by decide) ?_
  refine g_iadd X dX7_begins_19 ?_
  obtain ⟨hb3, hf⟩ := hfg hf
  refine g_iast X (q0 := 1) (f := (sA w 0 226 1).2 0) dX7_begins_20 rfl hb3 (awM_0 ad cI _ _ _) ?_
  refine g_aload_n X (i := 0) dX7_begins_21 rfl rfl ?_
  refine g_get X (q0 := 0) (v := .ref (ad 1)) 0 dX7_begins_22 gC_X7 rfl rfl (by decide) fl_X7_7 rfl rfl ?_
  refine g_sipush X dX7_begins_25 (v := 232) (by decide) ?_
  refine g_iconst X dX7_begins_28 (v := 0) (by decide) ?_
  obtain ⟨hb4, hf⟩ := hfg hf
  refine g_iast X (q0 := 1) (f := (sA (sA w 0 226 1) 0 228 (((sA w 0 226 1).2 0 (228 : Int32).toNatClampNeg) + 1)).2 0) dX7_begins_29 rfl hb4 (awM_0 ad cI _ _ _) ?_
  refine g_aload_n X (i := 0) dX7_begins_30 rfl rfl ?_
  refine g_get X (q0 := 0) (v := .ref (ad 1)) 0 dX7_begins_31 gC_X7 rfl rfl (by decide) fl_X7_7 rfl rfl ?_
  refine g_sipush X dX7_begins_34 (v := 233) (by decide) ?_
  refine g_iconst X dX7_begins_37 (v := 0) (by decide) ?_
  obtain ⟨hb5, hf⟩ := hfg hf
  refine g_iast X (q0 := 1) (f := (sA (sA (sA w 0 226 1) 0 228 (((sA w 0 226 1).2 0 (228 : Int32).toNatClampNeg) + 1)) 0 232 0).2 0) dX7_begins_38 rfl hb5 (awM_0 ad cI _ _ _) ?_
  refine g_aload_n X (i := 0) dX7_begins_39 rfl rfl ?_
  refine g_get X (q0 := 0) (v := .ref (ad 1)) 0 dX7_begins_40 gC_X7 rfl rfl (by decide) fl_X7_7 rfl rfl ?_
  refine g_sipush X dX7_begins_43 (v := 168) (by decide) ?_
  refine g_iconst X dX7_begins_46 (v := 0) (by decide) ?_
  obtain ⟨hb6, hf⟩ := hfg hf
  refine g_iast X (q0 := 1) (f := (sA (sA (sA (sA w 0 226 1) 0 228 (((sA w 0 226 1).2 0 (228 : Int32).toNatClampNeg) + 1)) 0 232 0) 0 233 0).2 0) dX7_begins_47 rfl hb6 (awM_0 ad cI _ _ _) ?_
  refine g_iconst X dX7_begins_48 (v := 0) (by decide) ?_
  refine g_istore_n X (i := 1) dX7_begins_49 rfl (by decide) rfl ?_
  obtain ⟨o14, h15, hf⟩ := hfb hf
  refine gl_X7_begins_L50 X BIG h15 ?_
  refine g_iconst X dX7_begins_85 (v := 0) (by decide) ?_
  refine g_istore_n X (i := 1) dX7_begins_86 rfl (by decide) rfl ?_
  obtain ⟨o20, h21, hf⟩ := hfb hf
  refine gl_X7_begins_L87 X BIG h21 ?_
  refine g_iconst X dX7_begins_112 (v := 0) (by decide) ?_
  refine g_istore_n X (i := 1) dX7_begins_113 rfl (by decide) rfl ?_
  obtain ⟨o27, h28, hf⟩ := hfb hf
  refine gl_X7_begins_L114 X BIG h28 ?_
  exact g_vret X hr dX7_begins_146 hf
def f_X7_takes_L21 : Nat → Int32 → Int32 → Int32 → St → Option (St)
  | 0, _, _, _, _ => none
  | n + 1, x1, x2, x3, w => if ib x1 235 then (if (w.2 0 x1.toNatClampNeg) < x3 then some (w) else if ib ((x1 + x3) + 1) 235 then if ib (x1 + x3) 235 then f_X7_takes_L21 n x1 x2 (x3 + 1) (sA w 0 (x1 + x3) (w.2 0 ((x1 + x3) + 1).toNatClampNeg)) else none else none) else none
def f_X7_takes (x1 : Int32) (w : St) : Option (Int32 × St) := if ib (x1 + 1) 235 then if ib x1 235 then if ib x1 235 then (f_X7_takes_L21 BIG x1 (w.2 0 (x1 + 1).toNatClampNeg) 1 (sA w 0 x1 ((w.2 0 x1.toNatClampNeg) - 1))).bind fun o8 => some (w.2 0 (x1 + 1).toNatClampNeg, o8) else none else none else none
set_option maxRecDepth 100000 in
set_option maxHeartbeats 4000000 in
theorem gl_X7_takes_L21 {p : Program} {l : Launch} {e : Env} {s : State} {m : MethodId} {args : Array Value} {below : List Frame} {meth : Method} {c : Code} {D : va_G} {A : Nat → Prop} {cI : ClassId × ClassId} {ad : Nat → Nat} {Q : State → Prop} {o : St} (X : gX p s m args meth c cX7_takes 4 RX7 D cI) (n : Nat) : ∀ {x1 x2 x3 : Int32} {w : St}, f_X7_takes_L21 n x1 x2 x3 w = some o → G p l e rm_X7_takes s m args below meth c D A 4 Q (wM ad cI) 0 0 55 [none, none, some (.int x2), none] [] o → G p l e rm_X7_takes s m args below meth c D A 4 Q (wM ad cI) 0 0 21 [some (.ref (ad 0)), some (.int x1), some (.int x2), some (.int x3)] [] w := by
  induction n with
  | zero => intro x1 x2 x3 w hf; cases hf
  | succ n ih =>
    intro x1 x2 x3 w hf k
    rw [f_X7_takes_L21] at hf
    refine g_iload_n X (i := 3) dX7_takes_21 rfl rfl ?_
    refine g_aload_n X (i := 0) dX7_takes_22 rfl rfl ?_
    refine g_get X (q0 := 0) (v := .ref (ad 1)) 0 dX7_takes_23 gC_X7 rfl rfl (by decide) fl_X7_7 rfl rfl ?_
    refine g_iload_n X (i := 1) dX7_takes_26 rfl rfl ?_
    obtain ⟨hb4, hf⟩ := hfg hf
    refine g_iald X (q0 := 1) (f := w.2 0) dX7_takes_27 rfl hb4 ?_
    refine g_icmp_gt X dX7_takes_28 (tgt := 55) (by decide) hf (fun c5 hf => ?_) (fun c5 hf => ?_)
    · obtain rfl := Option.some.inj hf
      refine g_sub (losub (lo' := [none, none, some (.int x2), none]) ⟨rfl, trivial⟩) ?_
      exact k
    · refine g_aload_n X (i := 0) dX7_takes_31 rfl rfl ?_
      refine g_get X (q0 := 0) (v := .ref (ad 1)) 0 dX7_takes_32 gC_X7 rfl rfl (by decide) fl_X7_7 rfl rfl ?_
      refine g_iload_n X (i := 1) dX7_takes_35 rfl rfl ?_
      refine g_iload_n X (i := 3) dX7_takes_36 rfl rfl ?_
      refine g_iadd X dX7_takes_37 ?_
      refine g_aload_n X (i := 0) dX7_takes_38 rfl rfl ?_
      refine g_get X (q0 := 0) (v := .ref (ad 1)) 0 dX7_takes_39 gC_X7 rfl rfl (by decide) fl_X7_7 rfl rfl ?_
      refine g_iload_n X (i := 1) dX7_takes_42 rfl rfl ?_
      refine g_iload_n X (i := 3) dX7_takes_43 rfl rfl ?_
      refine g_iadd X dX7_takes_44 ?_
      refine g_iconst X dX7_takes_45 (v := 1) (by decide) ?_
      refine g_iadd X dX7_takes_46 ?_
      obtain ⟨hb6, hf⟩ := hfg hf
      refine g_iald X (q0 := 1) (f := w.2 0) dX7_takes_47 rfl hb6 ?_
      obtain ⟨hb7, hf⟩ := hfg hf
      refine g_iast X (q0 := 1) (f := w.2 0) dX7_takes_48 rfl hb7 (awM_0 ad cI _ _ _) ?_
      refine g_iinc X (i := 3) (v := 1) dX7_takes_49 rfl (by decide) (by decide) rfl ?_
      refine g_goto X dX7_takes_52 (tgt := 21) (by decide) ?_
      exact ih hf k
set_option maxRecDepth 100000 in
set_option maxHeartbeats 4000000 in
theorem c_X7_takes {l : Launch} {D : va_G} {cI : ClassId × ClassId} {A : Nat → Prop} {ad : Nat → Nat} {x1 : Int32} {w : St} {o : Int32 × St} (hf : f_X7_takes x1 w = some o) : CTi l D cI A yX7_takes cX7_takes 4 (some .int) rm_X7_takes [.ref (ad 0), .int x1] ((wM ad cI) w) o.1 ((wM ad cI) o.2)   := by
  refine CTi.of (by decide +kernel) rfl (Nat.le_of_ble_eq_true rfl) ?_
  intro p e s m args below meth c X hr
  have X : gX p s m args meth c cX7_takes 4 RX7 D cI := X
  show G _ _ _ _ _ _ _ _ _ _ _ _ _ _ _ _ _ 0 [some (.ref (ad 0)), some (.int x1), none, none] [] w
  unfold f_X7_takes at hf
  refine g_aload_n X (i := 0) dX7_takes_0 rfl rfl ?_
  refine g_get X (q0 := 0) (v := .ref (ad 1)) 0 dX7_takes_1 gC_X7 rfl rfl (by decide) fl_X7_7 rfl rfl ?_
  refine g_iload_n X (i := 1) dX7_takes_4 rfl rfl ?_
  refine g_iconst X dX7_takes_5 (v := 1) (by decide) ?_
  refine g_iadd X dX7_takes_6 ?_
  obtain ⟨hb1, hf⟩ := hfg hf
  refine g_iald X (q0 := 1) (f := w.2 0) dX7_takes_7 rfl hb1 ?_
  refine g_istore_n X (i := 2) dX7_takes_8 rfl (by decide) rfl ?_
  refine g_aload_n X (i := 0) dX7_takes_9 rfl rfl ?_
  refine g_get X (q0 := 0) (v := .ref (ad 1)) 0 dX7_takes_10 gC_X7 rfl rfl (by decide) fl_X7_7 rfl rfl ?_
  refine g_iload_n X (i := 1) dX7_takes_13 rfl rfl ?_
  refine g_dup2 X dX7_takes_14 rfl rfl ?_
  obtain ⟨hb2, hf⟩ := hfg hf
  refine g_iald X (q0 := 1) (f := w.2 0) dX7_takes_15 rfl hb2 ?_
  refine g_iconst X dX7_takes_16 (v := 1) (by decide) ?_
  refine g_isub X dX7_takes_17 ?_
  obtain ⟨hb3, hf⟩ := hfg hf
  refine g_iast X (q0 := 1) (f := w.2 0) dX7_takes_18 rfl hb3 (awM_0 ad cI _ _ _) ?_
  refine g_iconst X dX7_takes_19 (v := 1) (by decide) ?_
  refine g_istore_n X (i := 3) dX7_takes_20 rfl (by decide) rfl ?_
  obtain ⟨o8, h9, hf⟩ := hfb hf
  refine gl_X7_takes_L21 X BIG h9 ?_
  refine g_iload_n X (i := 2) dX7_takes_55 rfl rfl ?_
  exact g_iret X hr dX7_takes_56 hf
def f_X7_blackens_L10 : Nat → Int32 → Int32 → St → Option (St)
  | 0, _, _, _ => none
  | n + 1, x1, x2, w => (if x2 < 3 then (f_X7_of x1 (1 + x2) w).bind fun o4 => (f_X7_shades o4.1 o4.2).bind fun o6 => f_X7_blackens_L10 n x1 (x2 + 1) o6.2 else some (w))
def f_X7_blackens (w : St) : Option (Int32 × St) := (f_X7_takes 168 w).bind fun o1 => (f_X7_blackens_L10 BIG o1.1 0 o1.2).bind fun o8 => (f_X7_sets o1.1 5 2 o8).bind fun o10 => some (0, o10.2)
set_option maxRecDepth 100000 in
set_option maxHeartbeats 4000000 in
theorem gl_X7_blackens_L10 {p : Program} {l : Launch} {e : Env} {s : State} {m : MethodId} {args : Array Value} {below : List Frame} {meth : Method} {c : Code} {D : va_G} {A : Nat → Prop} {cI : ClassId × ClassId} {ad : Nat → Nat} {Q : State → Prop} {o : St} (X : gX p s m args meth c cX7_blackens 3 RX7 D cI) (n : Nat) : ∀ {x1 x2 : Int32} {w : St}, f_X7_blackens_L10 n x1 x2 w = some o → G p l e rm_X7_blackens s m args below meth c D A 3 Q (wM ad cI) 0 0 33 [some (.ref (ad 0)), some (.int x1), none] [] o → G p l e rm_X7_blackens s m args below meth c D A 3 Q (wM ad cI) 0 0 10 [some (.ref (ad 0)), some (.int x1), some (.int x2)] [] w := by
  induction n with
  | zero => intro x1 x2 w hf; cases hf
  | succ n ih =>
    intro x1 x2 w hf k
    rw [f_X7_blackens_L10] at hf
    refine g_iload_n X (i := 2) dX7_blackens_10 rfl rfl ?_
    refine g_iconst X dX7_blackens_11 (v := 3) (by decide) ?_
    refine g_icmp_ge X dX7_blackens_12 (tgt := 33) (by decide) hf (fun c3 hf => ?_) (fun c3 hf => ?_)
    · refine g_aload_n X (i := 0) dX7_blackens_15 rfl rfl ?_
      refine g_aload_n X (i := 0) dX7_blackens_16 rfl rfl ?_
      refine g_iload_n X (i := 1) dX7_blackens_17 rfl rfl ?_
      refine g_iconst X dX7_blackens_18 (v := 1) (by decide) ?_
      refine g_iload_n X (i := 2) dX7_blackens_19 rfl rfl ?_
      refine g_iadd X dX7_blackens_20 ?_
      obtain ⟨o4, h5, hf⟩ := hfb hf
      refine g_Vi X (q0 := 0) (As := [.int x1, .int (1 + x2)]) (rest := [.ref (ad 0)]) (c_X7_of h5) dX7_blackens_21 ml_X7_43 yv_X7_of rfl rfl rfl rfl ⟨Nat.le_of_ble_eq_true rfl, Nat.le_of_ble_eq_true rfl⟩ ⟨rfl, rfl⟩ (Nat.le_of_ble_eq_true rfl) ⟨Nat.le_of_ble_eq_true rfl, Nat.le_of_ble_eq_true rfl⟩ ?_
      obtain ⟨o6, h7, hf⟩ := hfb hf
      refine g_Vv X (q0 := 0) (As := [.int o4.1]) (rest := []) (c_X7_shades h7) dX7_blackens_24 ml_X7_66 yv_X7_shades rfl rfl rfl rfl ⟨Nat.le_of_ble_eq_true rfl, Nat.le_of_ble_eq_true rfl⟩ ⟨rfl, rfl⟩ (Nat.le_of_ble_eq_true rfl) ⟨Nat.le_of_ble_eq_true rfl, Nat.le_of_ble_eq_true rfl⟩ ?_
      refine g_iinc X (i := 2) (v := 1) dX7_blackens_27 rfl (by decide) (by decide) rfl ?_
      refine g_goto X dX7_blackens_30 (tgt := 10) (by decide) ?_
      exact ih hf k
    · obtain rfl := Option.some.inj hf
      refine g_sub (losub (lo' := [some (.ref (ad 0)), some (.int x1), none]) ⟨rfl, rfl, trivial⟩) ?_
      exact k
set_option maxRecDepth 100000 in
set_option maxHeartbeats 4000000 in
theorem c_X7_blackens {l : Launch} {D : va_G} {cI : ClassId × ClassId} {A : Nat → Prop} {ad : Nat → Nat} {w : St} {o : Int32 × St} (hf : f_X7_blackens w = some o) : CTv l D cI A yX7_blackens cX7_blackens 3 (none) rm_X7_blackens [.ref (ad 0)] ((wM ad cI) w) ((wM ad cI) o.2)   := by
  refine CTv.of (by decide +kernel) rfl (Nat.le_of_ble_eq_true rfl) ?_
  intro p e s m args below meth c X hr
  have X : gX p s m args meth c cX7_blackens 3 RX7 D cI := X
  show G _ _ _ _ _ _ _ _ _ _ _ _ _ _ _ _ _ 0 [some (.ref (ad 0)), none, none] [] w
  unfold f_X7_blackens at hf
  refine g_aload_n X (i := 0) dX7_blackens_0 rfl rfl ?_
  refine g_sipush X dX7_blackens_1 (v := 168) (by decide) ?_
  obtain ⟨o1, h2, hf⟩ := hfb hf
  refine g_Vi X (q0 := 0) (As := [.int 168]) (rest := []) (c_X7_takes h2) dX7_blackens_4 ml_X7_96 yv_X7_takes rfl rfl rfl rfl ⟨Nat.le_of_ble_eq_true rfl, Nat.le_of_ble_eq_true rfl⟩ ⟨rfl, rfl⟩ (Nat.le_of_ble_eq_true rfl) ⟨Nat.le_of_ble_eq_true rfl, Nat.le_of_ble_eq_true rfl⟩ ?_
  refine g_istore_n X (i := 1) dX7_blackens_7 rfl (by decide) rfl ?_
  refine g_iconst X dX7_blackens_8 (v := 0) (by decide) ?_
  refine g_istore_n X (i := 2) dX7_blackens_9 rfl (by decide) rfl ?_
  obtain ⟨o8, h9, hf⟩ := hfb hf
  refine gl_X7_blackens_L10 X BIG h9 ?_
  refine g_aload_n X (i := 0) dX7_blackens_33 rfl rfl ?_
  refine g_iload_n X (i := 1) dX7_blackens_34 rfl rfl ?_
  refine g_iconst X dX7_blackens_35 (v := 5) (by decide) ?_
  refine g_iconst X dX7_blackens_36 (v := 2) (by decide) ?_
  obtain ⟨o10, h11, hf⟩ := hfb hf
  refine g_Vv X (q0 := 0) (As := [.int o1.1, .int 5, .int 2]) (rest := []) (c_X7_sets h11) dX7_blackens_37 ml_X7_58 yv_X7_sets rfl rfl rfl rfl ⟨Nat.le_of_ble_eq_true rfl, Nat.le_of_ble_eq_true rfl⟩ ⟨rfl, rfl⟩ (Nat.le_of_ble_eq_true rfl) ⟨Nat.le_of_ble_eq_true rfl, Nat.le_of_ble_eq_true rfl⟩ ?_
  exact g_vret X hr dX7_blackens_40 hf
def f_X7_clears_L2 : Nat → Int32 → St → Option (St)
  | 0, _, _ => none
  | n + 1, x1, w => (if x1 < 4 then if ib (222 + x1) 235 then (if (w.2 0 (222 + x1).toNatClampNeg) < 0 then if ib (222 + x1) 235 then f_X7_clears_L2 n (x1 + 1) (sA w 0 (222 + x1) (w.2 0 (222 + x1).toNatClampNeg)) else none else (f_X7_of (w.2 0 (222 + x1).toNatClampNeg) 5 w).bind fun o5 => (if o5.1 = 0 then if ib (222 + x1) 235 then f_X7_clears_L2 n (x1 + 1) (sA o5.2 0 (222 + x1) (-1)) else none else if ib (222 + x1) 235 then f_X7_clears_L2 n (x1 + 1) (sA o5.2 0 (222 + x1) (w.2 0 (222 + x1).toNatClampNeg)) else none)) else none else some (w))
def f_X7_clears (w : St) : Option (Int32 × St) := (f_X7_clears_L2 BIG 0 w).bind fun o10 => some (0, o10)
set_option maxRecDepth 100000 in
set_option maxHeartbeats 4000000 in
theorem gl_X7_clears_L2 {p : Program} {l : Launch} {e : Env} {s : State} {m : MethodId} {args : Array Value} {below : List Frame} {meth : Method} {c : Code} {D : va_G} {A : Nat → Prop} {cI : ClassId × ClassId} {ad : Nat → Nat} {Q : State → Prop} {o : St} (X : gX p s m args meth c cX7_clears 3 RX7 D cI) (n : Nat) : ∀ {x1 : Int32} {w : St}, f_X7_clears_L2 n x1 w = some o → G p l e rm_X7_clears s m args below meth c D A 3 Q (wM ad cI) 0 0 52 [none, none, none] [] o → G p l e rm_X7_clears s m args below meth c D A 3 Q (wM ad cI) 0 0 2 [some (.ref (ad 0)), some (.int x1), none] [] w := by
  induction n with
  | zero => intro x1 w hf; cases hf
  | succ n ih =>
    intro x1 w hf k
    rw [f_X7_clears_L2] at hf
    refine g_iload_n X (i := 1) dX7_clears_2 rfl rfl ?_
    refine g_iconst X dX7_clears_3 (v := 4) (by decide) ?_
    refine g_icmp_ge X dX7_clears_4 (tgt := 52) (by decide) hf (fun c1 hf => ?_) (fun c1 hf => ?_)
    · refine g_aload_n X (i := 0) dX7_clears_7 rfl rfl ?_
      refine g_get X (q0 := 0) (v := .ref (ad 1)) 0 dX7_clears_8 gC_X7 rfl rfl (by decide) fl_X7_7 rfl rfl ?_
      refine g_sipush X dX7_clears_11 (v := 222) (by decide) ?_
      refine g_iload_n X (i := 1) dX7_clears_14 rfl rfl ?_
      refine g_iadd X dX7_clears_15 ?_
      obtain ⟨hb2, hf⟩ := hfg hf
      refine g_iald X (q0 := 1) (f := w.2 0) dX7_clears_16 rfl hb2 ?_
      refine g_istore_n X (i := 2) dX7_clears_17 rfl (by decide) rfl ?_
      refine g_aload_n X (i := 0) dX7_clears_18 rfl rfl ?_
      refine g_get X (q0 := 0) (v := .ref (ad 1)) 0 dX7_clears_19 gC_X7 rfl rfl (by decide) fl_X7_7 rfl rfl ?_
      refine g_sipush X dX7_clears_22 (v := 222) (by decide) ?_
      refine g_iload_n X (i := 1) dX7_clears_25 rfl rfl ?_
      refine g_iadd X dX7_clears_26 ?_
      refine g_iload_n X (i := 2) dX7_clears_27 rfl rfl ?_
      refine g_if_lt X dX7_clears_28 (tgt := 44) (by decide) hf (fun c3 hf => ?_) (fun c3 hf => ?_)
      · refine g_iload_n X (i := 2) dX7_clears_44 rfl rfl ?_
        obtain ⟨hb4, hf⟩ := hfg hf
        refine g_iast X (q0 := 1) (f := w.2 0) dX7_clears_45 rfl hb4 (awM_0 ad cI _ _ _) ?_
        refine g_iinc X (i := 1) (v := 1) dX7_clears_46 rfl (by decide) (by decide) rfl ?_
        refine g_goto X dX7_clears_49 (tgt := 2) (by decide) ?_
        refine g_sub (losub (lo' := [some (.ref (ad 0)), some (.int (x1 + 1)), none]) ⟨rfl, rfl, trivial⟩) ?_
        exact ih hf k
      · refine g_aload_n X (i := 0) dX7_clears_31 rfl rfl ?_
        refine g_iload_n X (i := 2) dX7_clears_32 rfl rfl ?_
        refine g_iconst X dX7_clears_33 (v := 5) (by decide) ?_
        obtain ⟨o5, h6, hf⟩ := hfb hf
        refine g_Vi X (q0 := 0) (As := [.int (w.2 0 (222 + x1).toNatClampNeg), .int 5]) (rest := [.int (222 + x1), .ref (ad 1)]) (c_X7_of h6) dX7_clears_34 ml_X7_43 yv_X7_of rfl rfl rfl rfl ⟨Nat.le_of_ble_eq_true rfl, Nat.le_of_ble_eq_true rfl⟩ ⟨rfl, rfl⟩ (Nat.le_of_ble_eq_true rfl) ⟨Nat.le_of_ble_eq_true rfl, Nat.le_of_ble_eq_true rfl⟩ ?_
        refine g_if_ne X dX7_clears_37 (tgt := 44) (by decide) hf (fun c7 hf => ?_) (fun c7 hf => ?_)
        · refine g_iconst X dX7_clears_40 (v := (-1)) (by decide) ?_
          refine g_goto X dX7_clears_41 (tgt := 45) (by decide) ?_
          obtain ⟨hb8, hf⟩ := hfg hf
          refine g_iast X (q0 := 1) (f := o5.2.2 0) dX7_clears_45 rfl hb8 (awM_0 ad cI _ _ _) ?_
          refine g_iinc X (i := 1) (v := 1) dX7_clears_46 rfl (by decide) (by decide) rfl ?_
          refine g_goto X dX7_clears_49 (tgt := 2) (by decide) ?_
          refine g_sub (losub (lo' := [some (.ref (ad 0)), some (.int (x1 + 1)), none]) ⟨rfl, rfl, trivial⟩) ?_
          exact ih hf k
        · refine g_iload_n X (i := 2) dX7_clears_44 rfl rfl ?_
          obtain ⟨hb9, hf⟩ := hfg hf
          refine g_iast X (q0 := 1) (f := o5.2.2 0) dX7_clears_45 rfl hb9 (awM_0 ad cI _ _ _) ?_
          refine g_iinc X (i := 1) (v := 1) dX7_clears_46 rfl (by decide) (by decide) rfl ?_
          refine g_goto X dX7_clears_49 (tgt := 2) (by decide) ?_
          refine g_sub (losub (lo' := [some (.ref (ad 0)), some (.int (x1 + 1)), none]) ⟨rfl, rfl, trivial⟩) ?_
          exact ih hf k
    · obtain rfl := Option.some.inj hf
      refine g_sub (losub (lo' := [none, none, none]) trivial) ?_
      exact k
set_option maxRecDepth 100000 in
set_option maxHeartbeats 4000000 in
theorem c_X7_clears {l : Launch} {D : va_G} {cI : ClassId × ClassId} {A : Nat → Prop} {ad : Nat → Nat} {w : St} {o : Int32 × St} (hf : f_X7_clears w = some o) : CTv l D cI A yX7_clears cX7_clears 3 (none) rm_X7_clears [.ref (ad 0)] ((wM ad cI) w) ((wM ad cI) o.2)   := by
  refine CTv.of (by decide +kernel) rfl (Nat.le_of_ble_eq_true rfl) ?_
  intro p e s m args below meth c X hr
  have X : gX p s m args meth c cX7_clears 3 RX7 D cI := X
  show G _ _ _ _ _ _ _ _ _ _ _ _ _ _ _ _ _ 0 [some (.ref (ad 0)), none, none] [] w
  unfold f_X7_clears at hf
  refine g_iconst X dX7_clears_0 (v := 0) (by decide) ?_
  refine g_istore_n X (i := 1) dX7_clears_1 rfl (by decide) rfl ?_
  obtain ⟨o10, h11, hf⟩ := hfb hf
  refine gl_X7_clears_L2 X BIG h11 ?_
  exact g_vret X hr dX7_clears_52 hf
def f_X7_isObject (x1 : Int32) (w : St) : Option (Int32 × St) := (f_X7_in x1 0 23 w).bind fun o1 => (if o1.1 = 0 then some (0, o1.2) else (f_X7_of x1 0 o1.2).bind fun o4 => (if o4.1 = 1 then some (1, o4.2) else some (0, o4.2)))
set_option maxRecDepth 100000 in
set_option maxHeartbeats 4000000 in
theorem c_X7_isObject {l : Launch} {D : va_G} {cI : ClassId × ClassId} {A : Nat → Prop} {ad : Nat → Nat} {x1 : Int32} {w : St} {o : Int32 × St} (hf : f_X7_isObject x1 w = some o) : CTi l D cI A yX7_isObject cX7_isObject 2 (some .boolean) rm_X7_isObject [.ref (ad 0), .int x1] ((wM ad cI) w) o.1 ((wM ad cI) o.2)   := by
  refine CTi.of (by decide +kernel) rfl (Nat.le_of_ble_eq_true rfl) ?_
  intro p e s m args below meth c X hr
  have X : gX p s m args meth c cX7_isObject 2 RX7 D cI := X
  show G _ _ _ _ _ _ _ _ _ _ _ _ _ _ _ _ _ 0 [some (.ref (ad 0)), some (.int x1)] [] w
  unfold f_X7_isObject at hf
  refine g_iload_n X (i := 1) dX7_isObject_0 rfl rfl ?_
  refine g_iconst X dX7_isObject_1 (v := 0) (by decide) ?_
  refine g_bipush X dX7_isObject_2 (v := 23) (by decide) ?_
  obtain ⟨o1, h2, hf⟩ := hfb hf
  refine g_Si X (As := [.int x1, .int 0, .int 23]) (rest := []) (c_X7_in (wf := (wM ad cI)) h2) dX7_isObject_4 ml_X7_39 yv_X7_in rfl rfl ⟨Nat.le_of_ble_eq_true rfl, Nat.le_of_ble_eq_true rfl⟩ ⟨rfl, rfl⟩ (Nat.le_of_ble_eq_true rfl) ⟨Nat.le_of_ble_eq_true rfl, Nat.le_of_ble_eq_true rfl⟩ ?_
  refine g_if_eq X dX7_isObject_7 (tgt := 24) (by decide) hf (fun c3 hf => ?_) (fun c3 hf => ?_)
  · refine g_iconst X dX7_isObject_24 (v := 0) (by decide) ?_
    exact g_zret X hr dX7_isObject_25 rfl hf
  · refine g_aload_n X (i := 0) dX7_isObject_10 rfl rfl ?_
    refine g_iload_n X (i := 1) dX7_isObject_11 rfl rfl ?_
    refine g_iconst X dX7_isObject_12 (v := 0) (by decide) ?_
    obtain ⟨o4, h5, hf⟩ := hfb hf
    refine g_Vi X (q0 := 0) (As := [.int x1, .int 0]) (rest := []) (c_X7_of h5) dX7_isObject_13 ml_X7_43 yv_X7_of rfl rfl rfl rfl ⟨Nat.le_of_ble_eq_true rfl, Nat.le_of_ble_eq_true rfl⟩ ⟨rfl, rfl⟩ (Nat.le_of_ble_eq_true rfl) ⟨Nat.le_of_ble_eq_true rfl, Nat.le_of_ble_eq_true rfl⟩ ?_
    refine g_iconst X dX7_isObject_16 (v := 1) (by decide) ?_
    refine g_icmp_ne X dX7_isObject_17 (tgt := 24) (by decide) hf (fun c6 hf => ?_) (fun c6 hf => ?_)
    · refine g_iconst X dX7_isObject_20 (v := 1) (by decide) ?_
      refine g_goto X dX7_isObject_21 (tgt := 25) (by decide) ?_
      exact g_zret X hr dX7_isObject_25 rfl hf
    · refine g_iconst X dX7_isObject_24 (v := 0) (by decide) ?_
      exact g_zret X hr dX7_isObject_25 rfl hf
def f_X7_looksForFinish_L5 : Nat → Int32 → Int32 → St → Option (Int32 × St)
  | 0, _, _, _ => none
  | n + 1, x1, x2, w => (if x2 < 0 then some (x1, w) else (f_X7_isObject x2 w).bind fun o2 => (if o2.1 = 0 then f_X7_looksForFinish_L5 n x1 (x2 + (-1)) o2.2 else (f_X7_of x2 5 o2.2).bind fun o5 => (if o5.1 = 0 then (f_X7_of x2 4 o5.2).bind fun o8 => (if o8.1 = 1 then f_X7_looksForFinish_L5 n x2 (x2 + (-1)) o8.2 else f_X7_looksForFinish_L5 n x1 (x2 + (-1)) o8.2) else f_X7_looksForFinish_L5 n x1 (x2 + (-1)) o5.2)))
def f_X7_looksForFinish (w : St) : Option (Int32 × St) := (f_X7_looksForFinish_L5 BIG (-1) 23 w).bind fun o11 => (if o11.1 < 0 then (f_X7_clears o11.2).bind fun o14 => if ib 226 235 then if ib 227 235 then some (0, sA (sA o14.2 0 226 3) 0 227 0) else none else none else (f_X7_sets o11.1 4 0 o11.2).bind fun o18 => if ib 193 235 then if ib 193 235 then if ib 193 235 then if ib (193 + ((sA o18.2 0 193 ((o18.2.2 0 (193 : Int32).toNatClampNeg) + 1)).2 0 (193 : Int32).toNatClampNeg)) 235 then (f_X7_shades o11.1 (sA (sA o18.2 0 193 ((o18.2.2 0 (193 : Int32).toNatClampNeg) + 1)) 0 (193 + ((sA o18.2 0 193 ((o18.2.2 0 (193 : Int32).toNatClampNeg) + 1)).2 0 (193 : Int32).toNatClampNeg)) o11.1)).bind fun o24 => some (0, o24.2) else none else none else none else none)
set_option maxRecDepth 100000 in
set_option maxHeartbeats 4000000 in
theorem gl_X7_looksForFinish_L5 {p : Program} {l : Launch} {e : Env} {s : State} {m : MethodId} {args : Array Value} {below : List Frame} {meth : Method} {c : Code} {D : va_G} {A : Nat → Prop} {cI : ClassId × ClassId} {ad : Nat → Nat} {Q : State → Prop} {o : Int32 × St} (X : gX p s m args meth c cX7_looksForFinish 3 RX7 D cI) (n : Nat) : ∀ {x1 x2 : Int32} {w : St}, f_X7_looksForFinish_L5 n x1 x2 w = some o → G p l e rm_X7_looksForFinish s m args below meth c D A 3 Q (wM ad cI) 0 0 48 [some (.ref (ad 0)), some (.int o.1), none] [] o.2 → G p l e rm_X7_looksForFinish s m args below meth c D A 3 Q (wM ad cI) 0 0 5 [some (.ref (ad 0)), some (.int x1), some (.int x2)] [] w := by
  induction n with
  | zero => intro x1 x2 w hf; cases hf
  | succ n ih =>
    intro x1 x2 w hf k
    rw [f_X7_looksForFinish_L5] at hf
    refine g_iload_n X (i := 2) dX7_looksForFinish_5 rfl rfl ?_
    refine g_if_lt X dX7_looksForFinish_6 (tgt := 48) (by decide) hf (fun c1 hf => ?_) (fun c1 hf => ?_)
    · obtain rfl := Option.some.inj hf
      refine g_sub (losub (lo' := [some (.ref (ad 0)), some (.int x1), none]) ⟨rfl, rfl, trivial⟩) ?_
      exact k
    · refine g_aload_n X (i := 0) dX7_looksForFinish_9 rfl rfl ?_
      refine g_iload_n X (i := 2) dX7_looksForFinish_10 rfl rfl ?_
      obtain ⟨o2, h3, hf⟩ := hfb hf
      refine g_Vi X (q0 := 0) (As := [.int x2]) (rest := []) (c_X7_isObject h3) dX7_looksForFinish_11 ml_X7_87 yv_X7_isObject rfl rfl rfl rfl ⟨Nat.le_of_ble_eq_true rfl, Nat.le_of_ble_eq_true rfl⟩ ⟨rfl, rfl⟩ (Nat.le_of_ble_eq_true rfl) ⟨Nat.le_of_ble_eq_true rfl, Nat.le_of_ble_eq_true rfl⟩ ?_
      refine g_if_eq X dX7_looksForFinish_14 (tgt := 40) (by decide) hf (fun c4 hf => ?_) (fun c4 hf => ?_)
      · refine g_iload_n X (i := 1) dX7_looksForFinish_40 rfl rfl ?_
        refine g_istore_n X (i := 1) dX7_looksForFinish_41 rfl (by decide) rfl ?_
        refine g_iinc X (i := 2) (v := (-1)) dX7_looksForFinish_42 rfl (by decide) (by decide) rfl ?_
        refine g_goto X dX7_looksForFinish_45 (tgt := 5) (by decide) ?_
        exact ih hf k
      · refine g_aload_n X (i := 0) dX7_looksForFinish_17 rfl rfl ?_
        refine g_iload_n X (i := 2) dX7_looksForFinish_18 rfl rfl ?_
        refine g_iconst X dX7_looksForFinish_19 (v := 5) (by decide) ?_
        obtain ⟨o5, h6, hf⟩ := hfb hf
        refine g_Vi X (q0 := 0) (As := [.int x2, .int 5]) (rest := []) (c_X7_of h6) dX7_looksForFinish_20 ml_X7_43 yv_X7_of rfl rfl rfl rfl ⟨Nat.le_of_ble_eq_true rfl, Nat.le_of_ble_eq_true rfl⟩ ⟨rfl, rfl⟩ (Nat.le_of_ble_eq_true rfl) ⟨Nat.le_of_ble_eq_true rfl, Nat.le_of_ble_eq_true rfl⟩ ?_
        refine g_if_ne X dX7_looksForFinish_23 (tgt := 40) (by decide) hf (fun c7 hf => ?_) (fun c7 hf => ?_)
        · refine g_aload_n X (i := 0) dX7_looksForFinish_26 rfl rfl ?_
          refine g_iload_n X (i := 2) dX7_looksForFinish_27 rfl rfl ?_
          refine g_iconst X dX7_looksForFinish_28 (v := 4) (by decide) ?_
          obtain ⟨o8, h9, hf⟩ := hfb hf
          refine g_Vi X (q0 := 0) (As := [.int x2, .int 4]) (rest := []) (c_X7_of h9) dX7_looksForFinish_29 ml_X7_43 yv_X7_of rfl rfl rfl rfl ⟨Nat.le_of_ble_eq_true rfl, Nat.le_of_ble_eq_true rfl⟩ ⟨rfl, rfl⟩ (Nat.le_of_ble_eq_true rfl) ⟨Nat.le_of_ble_eq_true rfl, Nat.le_of_ble_eq_true rfl⟩ ?_
          refine g_iconst X dX7_looksForFinish_32 (v := 1) (by decide) ?_
          refine g_icmp_ne X dX7_looksForFinish_33 (tgt := 40) (by decide) hf (fun c10 hf => ?_) (fun c10 hf => ?_)
          · refine g_iload_n X (i := 2) dX7_looksForFinish_36 rfl rfl ?_
            refine g_goto X dX7_looksForFinish_37 (tgt := 41) (by decide) ?_
            refine g_istore_n X (i := 1) dX7_looksForFinish_41 rfl (by decide) rfl ?_
            refine g_iinc X (i := 2) (v := (-1)) dX7_looksForFinish_42 rfl (by decide) (by decide) rfl ?_
            refine g_goto X dX7_looksForFinish_45 (tgt := 5) (by decide) ?_
            exact ih hf k
          · refine g_iload_n X (i := 1) dX7_looksForFinish_40 rfl rfl ?_
            refine g_istore_n X (i := 1) dX7_looksForFinish_41 rfl (by decide) rfl ?_
            refine g_iinc X (i := 2) (v := (-1)) dX7_looksForFinish_42 rfl (by decide) (by decide) rfl ?_
            refine g_goto X dX7_looksForFinish_45 (tgt := 5) (by decide) ?_
            exact ih hf k
        · refine g_iload_n X (i := 1) dX7_looksForFinish_40 rfl rfl ?_
          refine g_istore_n X (i := 1) dX7_looksForFinish_41 rfl (by decide) rfl ?_
          refine g_iinc X (i := 2) (v := (-1)) dX7_looksForFinish_42 rfl (by decide) (by decide) rfl ?_
          refine g_goto X dX7_looksForFinish_45 (tgt := 5) (by decide) ?_
          exact ih hf k
set_option maxRecDepth 100000 in
set_option maxHeartbeats 4000000 in
theorem c_X7_looksForFinish {l : Launch} {D : va_G} {cI : ClassId × ClassId} {A : Nat → Prop} {ad : Nat → Nat} {w : St} {o : Int32 × St} (hf : f_X7_looksForFinish w = some o) : CTv l D cI A yX7_looksForFinish cX7_looksForFinish 3 (none) rm_X7_looksForFinish [.ref (ad 0)] ((wM ad cI) w) ((wM ad cI) o.2)   := by
  refine CTv.of (by decide +kernel) rfl (Nat.le_of_ble_eq_true rfl) ?_
  intro p e s m args below meth c X hr
  have X : gX p s m args meth c cX7_looksForFinish 3 RX7 D cI := X
  show G _ _ _ _ _ _ _ _ _ _ _ _ _ _ _ _ _ 0 [some (.ref (ad 0)), none, none] [] w
  unfold f_X7_looksForFinish at hf
  refine g_iconst X dX7_looksForFinish_0 (v := (-1)) (by decide) ?_
  refine g_istore_n X (i := 1) dX7_looksForFinish_1 rfl (by decide) rfl ?_
  refine g_bipush X dX7_looksForFinish_2 (v := 23) (by decide) ?_
  refine g_istore_n X (i := 2) dX7_looksForFinish_4 rfl (by decide) rfl ?_
  obtain ⟨o11, h12, hf⟩ := hfb hf
  refine gl_X7_looksForFinish_L5 X BIG h12 ?_
  refine g_iload_n X (i := 1) dX7_looksForFinish_48 rfl rfl ?_
  refine g_if_ge X dX7_looksForFinish_49 (tgt := 75) (by decide) hf (fun c13 hf => ?_) (fun c13 hf => ?_)
  · refine g_aload_n X (i := 0) dX7_looksForFinish_52 rfl rfl ?_
    obtain ⟨o14, h15, hf⟩ := hfb hf
    refine g_Vv X (q0 := 0) (As := []) (rest := []) (c_X7_clears h15) dX7_looksForFinish_53 ml_X7_102 yv_X7_clears rfl rfl rfl rfl ⟨Nat.le_of_ble_eq_true rfl, Nat.le_of_ble_eq_true rfl⟩ ⟨rfl, rfl⟩ (Nat.le_of_ble_eq_true rfl) ⟨Nat.le_of_ble_eq_true rfl, Nat.le_of_ble_eq_true rfl⟩ ?_
    refine g_aload_n X (i := 0) dX7_looksForFinish_56 rfl rfl ?_
    refine g_get X (q0 := 0) (v := .ref (ad 1)) 0 dX7_looksForFinish_57 gC_X7 rfl rfl (by decide) fl_X7_7 rfl rfl ?_
    refine g_sipush X dX7_looksForFinish_60 (v := 226) (by decide) ?_
    refine g_iconst X dX7_looksForFinish_63 (v := 3) (by decide) ?_
    obtain ⟨hb16, hf⟩ := hfg hf
    refine g_iast X (q0 := 1) (f := o14.2.2 0) dX7_looksForFinish_64 rfl hb16 (awM_0 ad cI _ _ _) ?_
    refine g_aload_n X (i := 0) dX7_looksForFinish_65 rfl rfl ?_
    refine g_get X (q0 := 0) (v := .ref (ad 1)) 0 dX7_looksForFinish_66 gC_X7 rfl rfl (by decide) fl_X7_7 rfl rfl ?_
    refine g_sipush X dX7_looksForFinish_69 (v := 227) (by decide) ?_
    refine g_iconst X dX7_looksForFinish_72 (v := 0) (by decide) ?_
    obtain ⟨hb17, hf⟩ := hfg hf
    refine g_iast X (q0 := 1) (f := (sA o14.2 0 226 3).2 0) dX7_looksForFinish_73 rfl hb17 (awM_0 ad cI _ _ _) ?_
    exact g_vret X hr dX7_looksForFinish_74 hf
  · refine g_aload_n X (i := 0) dX7_looksForFinish_75 rfl rfl ?_
    refine g_iload_n X (i := 1) dX7_looksForFinish_76 rfl rfl ?_
    refine g_iconst X dX7_looksForFinish_77 (v := 4) (by decide) ?_
    refine g_iconst X dX7_looksForFinish_78 (v := 0) (by decide) ?_
    obtain ⟨o18, h19, hf⟩ := hfb hf
    refine g_Vv X (q0 := 0) (As := [.int o11.1, .int 4, .int 0]) (rest := []) (c_X7_sets h19) dX7_looksForFinish_79 ml_X7_58 yv_X7_sets rfl rfl rfl rfl ⟨Nat.le_of_ble_eq_true rfl, Nat.le_of_ble_eq_true rfl⟩ ⟨rfl, rfl⟩ (Nat.le_of_ble_eq_true rfl) ⟨Nat.le_of_ble_eq_true rfl, Nat.le_of_ble_eq_true rfl⟩ ?_
    refine g_aload_n X (i := 0) dX7_looksForFinish_82 rfl rfl ?_
    refine g_get X (q0 := 0) (v := .ref (ad 1)) 0 dX7_looksForFinish_83 gC_X7 rfl rfl (by decide) fl_X7_7 rfl rfl ?_
    refine g_sipush X dX7_looksForFinish_86 (v := 193) (by decide) ?_
    refine g_dup2 X dX7_looksForFinish_89 rfl rfl ?_
    obtain ⟨hb20, hf⟩ := hfg hf
    refine g_iald X (q0 := 1) (f := o18.2.2 0) dX7_looksForFinish_90 rfl hb20 ?_
    refine g_iconst X dX7_looksForFinish_91 (v := 1) (by decide) ?_
    refine g_iadd X dX7_looksForFinish_92 ?_
    obtain ⟨hb21, hf⟩ := hfg hf
    refine g_iast X (q0 := 1) (f := o18.2.2 0) dX7_looksForFinish_93 rfl hb21 (awM_0 ad cI _ _ _) ?_
    refine g_aload_n X (i := 0) dX7_looksForFinish_94 rfl rfl ?_
    refine g_get X (q0 := 0) (v := .ref (ad 1)) 0 dX7_looksForFinish_95 gC_X7 rfl rfl (by decide) fl_X7_7 rfl rfl ?_
    refine g_sipush X dX7_looksForFinish_98 (v := 193) (by decide) ?_
    refine g_aload_n X (i := 0) dX7_looksForFinish_101 rfl rfl ?_
    refine g_get X (q0 := 0) (v := .ref (ad 1)) 0 dX7_looksForFinish_102 gC_X7 rfl rfl (by decide) fl_X7_7 rfl rfl ?_
    refine g_sipush X dX7_looksForFinish_105 (v := 193) (by decide) ?_
    obtain ⟨hb22, hf⟩ := hfg hf
    refine g_iald X (q0 := 1) (f := (sA o18.2 0 193 ((o18.2.2 0 (193 : Int32).toNatClampNeg) + 1)).2 0) dX7_looksForFinish_108 rfl hb22 ?_
    refine g_iadd X dX7_looksForFinish_109 ?_
    refine g_iload_n X (i := 1) dX7_looksForFinish_110 rfl rfl ?_
    obtain ⟨hb23, hf⟩ := hfg hf
    refine g_iast X (q0 := 1) (f := (sA o18.2 0 193 ((o18.2.2 0 (193 : Int32).toNatClampNeg) + 1)).2 0) dX7_looksForFinish_111 rfl hb23 (awM_0 ad cI _ _ _) ?_
    refine g_aload_n X (i := 0) dX7_looksForFinish_112 rfl rfl ?_
    refine g_iload_n X (i := 1) dX7_looksForFinish_113 rfl rfl ?_
    obtain ⟨o24, h25, hf⟩ := hfb hf
    refine g_Vv X (q0 := 0) (As := [.int o11.1]) (rest := []) (c_X7_shades h25) dX7_looksForFinish_114 ml_X7_66 yv_X7_shades rfl rfl rfl rfl ⟨Nat.le_of_ble_eq_true rfl, Nat.le_of_ble_eq_true rfl⟩ ⟨rfl, rfl⟩ (Nat.le_of_ble_eq_true rfl) ⟨Nat.le_of_ble_eq_true rfl, Nat.le_of_ble_eq_true rfl⟩ ?_
    exact g_vret X hr dX7_looksForFinish_117 hf
def f_X7_letsGo_L17 : Nat → Int32 → Int32 → Int32 → St → Option (St)
  | 0, _, _, _, _ => none
  | n + 1, x1, x2, x3, w => (if x3 < 3 then (f_X7_of x2 (1 + x3) w).bind fun o5 => (if o5.1 = x1 then (f_X7_sets x2 (1 + x3) (-1) o5.2).bind fun o8 => f_X7_letsGo_L17 n x1 x2 (x3 + 1) o8.2 else (f_X7_of x2 (1 + x3) o5.2).bind fun o10 => (f_X7_sets x2 (1 + x3) o10.1 o10.2).bind fun o12 => f_X7_letsGo_L17 n x1 x2 (x3 + 1) o12.2) else some (w))
def f_X7_letsGo_L9 : Nat → Int32 → Int32 → St → Option (St)
  | 0, _, _, _ => none
  | n + 1, x1, x2, w => (if x2 < 24 then (f_X7_letsGo_L17 BIG x1 x2 0 w).bind fun o14 => f_X7_letsGo_L9 n x1 (x2 + 1) o14 else some (w))
def f_X7_letsGo_L68 : Nat → Int32 → Int32 → St → Option (St)
  | 0, _, _, _ => none
  | n + 1, x1, x2, w => (if x2 < 8 then if ib (218 + x2) 235 then (if (w.2 0 (218 + x2).toNatClampNeg) = x1 then if ib (218 + x2) 235 then f_X7_letsGo_L68 n x1 (x2 + 1) (sA w 0 (218 + x2) (-1)) else none else if ib (218 + x2) 235 then if ib (218 + x2) 235 then f_X7_letsGo_L68 n x1 (x2 + 1) (sA w 0 (218 + x2) (w.2 0 (218 + x2).toNatClampNeg)) else none else none) else none else some (w))
def f_X7_letsGo (x1 : Int32) (w : St) : Option (Int32 × St) := (f_X7_sets x1 0 0 w).bind fun o1 => (f_X7_letsGo_L9 BIG x1 0 o1.2).bind fun o16 => (f_X7_letsGo_L68 BIG x1 0 o16).bind fun o24 => if ib 230 235 then if ib 230 235 then if ib 233 235 then if ib 233 235 then some (0, sA (sA o24 0 230 ((o24.2 0 (230 : Int32).toNatClampNeg) + 1)) 0 233 (((sA o24 0 230 ((o24.2 0 (230 : Int32).toNatClampNeg) + 1)).2 0 (233 : Int32).toNatClampNeg) ||| (1 <<< (x1 &&& 31)))) else none else none else none else none
set_option maxRecDepth 100000 in
set_option maxHeartbeats 4000000 in
theorem gl_X7_letsGo_L17 {p : Program} {l : Launch} {e : Env} {s : State} {m : MethodId} {args : Array Value} {below : List Frame} {meth : Method} {c : Code} {D : va_G} {A : Nat → Prop} {cI : ClassId × ClassId} {ad : Nat → Nat} {Q : State → Prop} {o : St} (X : gX p s m args meth c cX7_letsGo 4 RX7 D cI) (n : Nat) : ∀ {x1 x2 x3 : Int32} {w : St}, f_X7_letsGo_L17 n x1 x2 x3 w = some o → G p l e rm_X7_letsGo s m args below meth c D A 4 Q (wM ad cI) 0 0 60 [some (.ref (ad 0)), some (.int x1), some (.int x2), none] [] o → G p l e rm_X7_letsGo s m args below meth c D A 4 Q (wM ad cI) 0 0 17 [some (.ref (ad 0)), some (.int x1), some (.int x2), some (.int x3)] [] w := by
  induction n with
  | zero => intro x1 x2 x3 w hf; cases hf
  | succ n ih =>
    intro x1 x2 x3 w hf k
    rw [f_X7_letsGo_L17] at hf
    refine g_iload_n X (i := 3) dX7_letsGo_17 rfl rfl ?_
    refine g_iconst X dX7_letsGo_18 (v := 3) (by decide) ?_
    refine g_icmp_ge X dX7_letsGo_19 (tgt := 60) (by decide) hf (fun c4 hf => ?_) (fun c4 hf => ?_)
    · refine g_aload_n X (i := 0) dX7_letsGo_22 rfl rfl ?_
      refine g_iload_n X (i := 2) dX7_letsGo_23 rfl rfl ?_
      refine g_iconst X dX7_letsGo_24 (v := 1) (by decide) ?_
      refine g_iload_n X (i := 3) dX7_letsGo_25 rfl rfl ?_
      refine g_iadd X dX7_letsGo_26 ?_
      refine g_aload_n X (i := 0) dX7_letsGo_27 rfl rfl ?_
      refine g_iload_n X (i := 2) dX7_letsGo_28 rfl rfl ?_
      refine g_iconst X dX7_letsGo_29 (v := 1) (by decide) ?_
      refine g_iload_n X (i := 3) dX7_letsGo_30 rfl rfl ?_
      refine g_iadd X dX7_letsGo_31 ?_
      obtain ⟨o5, h6, hf⟩ := hfb hf
      refine g_Vi X (q0 := 0) (As := [.int x2, .int (1 + x3)]) (rest := [.int (1 + x3), .int x2, .ref (ad 0)]) (c_X7_of h6) dX7_letsGo_32 ml_X7_43 yv_X7_of rfl rfl rfl rfl ⟨Nat.le_of_ble_eq_true rfl, Nat.le_of_ble_eq_true rfl⟩ ⟨rfl, rfl⟩ (Nat.le_of_ble_eq_true rfl) ⟨Nat.le_of_ble_eq_true rfl, Nat.le_of_ble_eq_true rfl⟩ ?_
      refine g_iload_n X (i := 1) dX7_letsGo_35 rfl rfl ?_
      refine g_icmp_ne X dX7_letsGo_36 (tgt := 43) (by decide) hf (fun c7 hf => ?_) (fun c7 hf => ?_)
      · refine g_iconst X dX7_letsGo_39 (v := (-1)) (by decide) ?_
        refine g_goto X dX7_letsGo_40 (tgt := 51) (by decide) ?_
        obtain ⟨o8, h9, hf⟩ := hfb hf
        refine g_Vv X (q0 := 0) (As := [.int x2, .int (1 + x3), .int (-1)]) (rest := []) (c_X7_sets h9) dX7_letsGo_51 ml_X7_58 yv_X7_sets rfl rfl rfl rfl ⟨Nat.le_of_ble_eq_true rfl, Nat.le_of_ble_eq_true rfl⟩ ⟨rfl, rfl⟩ (Nat.le_of_ble_eq_true rfl) ⟨Nat.le_of_ble_eq_true rfl, Nat.le_of_ble_eq_true rfl⟩ ?_
        refine g_iinc X (i := 3) (v := 1) dX7_letsGo_54 rfl (by decide) (by decide) rfl ?_
        refine g_goto X dX7_letsGo_57 (tgt := 17) (by decide) ?_
        exact ih hf k
      · refine g_aload_n X (i := 0) dX7_letsGo_43 rfl rfl ?_
        refine g_iload_n X (i := 2) dX7_letsGo_44 rfl rfl ?_
        refine g_iconst X dX7_letsGo_45 (v := 1) (by decide) ?_
        refine g_iload_n X (i := 3) dX7_letsGo_46 rfl rfl ?_
        refine g_iadd X dX7_letsGo_47 ?_
        obtain ⟨o10, h11, hf⟩ := hfb hf
        refine g_Vi X (q0 := 0) (As := [.int x2, .int (1 + x3)]) (rest := [.int (1 + x3), .int x2, .ref (ad 0)]) (c_X7_of h11) dX7_letsGo_48 ml_X7_43 yv_X7_of rfl rfl rfl rfl ⟨Nat.le_of_ble_eq_true rfl, Nat.le_of_ble_eq_true rfl⟩ ⟨rfl, rfl⟩ (Nat.le_of_ble_eq_true rfl) ⟨Nat.le_of_ble_eq_true rfl, Nat.le_of_ble_eq_true rfl⟩ ?_
        obtain ⟨o12, h13, hf⟩ := hfb hf
        refine g_Vv X (q0 := 0) (As := [.int x2, .int (1 + x3), .int o10.1]) (rest := []) (c_X7_sets h13) dX7_letsGo_51 ml_X7_58 yv_X7_sets rfl rfl rfl rfl ⟨Nat.le_of_ble_eq_true rfl, Nat.le_of_ble_eq_true rfl⟩ ⟨rfl, rfl⟩ (Nat.le_of_ble_eq_true rfl) ⟨Nat.le_of_ble_eq_true rfl, Nat.le_of_ble_eq_true rfl⟩ ?_
        refine g_iinc X (i := 3) (v := 1) dX7_letsGo_54 rfl (by decide) (by decide) rfl ?_
        refine g_goto X dX7_letsGo_57 (tgt := 17) (by decide) ?_
        exact ih hf k
    · obtain rfl := Option.some.inj hf
      refine g_sub (losub (lo' := [some (.ref (ad 0)), some (.int x1), some (.int x2), none]) ⟨rfl, rfl, rfl, trivial⟩) ?_
      exact k
set_option maxRecDepth 100000 in
set_option maxHeartbeats 4000000 in
theorem gl_X7_letsGo_L9 {p : Program} {l : Launch} {e : Env} {s : State} {m : MethodId} {args : Array Value} {below : List Frame} {meth : Method} {c : Code} {D : va_G} {A : Nat → Prop} {cI : ClassId × ClassId} {ad : Nat → Nat} {Q : State → Prop} {o : St} (X : gX p s m args meth c cX7_letsGo 4 RX7 D cI) (n : Nat) : ∀ {x1 x2 : Int32} {w : St}, f_X7_letsGo_L9 n x1 x2 w = some o → G p l e rm_X7_letsGo s m args below meth c D A 4 Q (wM ad cI) 0 0 66 [some (.ref (ad 0)), some (.int x1), none, none] [] o → G p l e rm_X7_letsGo s m args below meth c D A 4 Q (wM ad cI) 0 0 9 [some (.ref (ad 0)), some (.int x1), some (.int x2), none] [] w := by
  induction n with
  | zero => intro x1 x2 w hf; cases hf
  | succ n ih =>
    intro x1 x2 w hf k
    rw [f_X7_letsGo_L9] at hf
    refine g_iload_n X (i := 2) dX7_letsGo_9 rfl rfl ?_
    refine g_bipush X dX7_letsGo_10 (v := 24) (by decide) ?_
    refine g_icmp_ge X dX7_letsGo_12 (tgt := 66) (by decide) hf (fun c3 hf => ?_) (fun c3 hf => ?_)
    · refine g_iconst X dX7_letsGo_15 (v := 0) (by decide) ?_
      refine g_istore_n X (i := 3) dX7_letsGo_16 rfl (by decide) rfl ?_
      obtain ⟨o14, h15, hf⟩ := hfb hf
      refine gl_X7_letsGo_L17 X BIG h15 ?_
      refine g_iinc X (i := 2) (v := 1) dX7_letsGo_60 rfl (by decide) (by decide) rfl ?_
      refine g_goto X dX7_letsGo_63 (tgt := 9) (by decide) ?_
      exact ih hf k
    · obtain rfl := Option.some.inj hf
      refine g_sub (losub (lo' := [some (.ref (ad 0)), some (.int x1), none, none]) ⟨rfl, rfl, trivial⟩) ?_
      exact k
set_option maxRecDepth 100000 in
set_option maxHeartbeats 4000000 in
theorem gl_X7_letsGo_L68 {p : Program} {l : Launch} {e : Env} {s : State} {m : MethodId} {args : Array Value} {below : List Frame} {meth : Method} {c : Code} {D : va_G} {A : Nat → Prop} {cI : ClassId × ClassId} {ad : Nat → Nat} {Q : State → Prop} {o : St} (X : gX p s m args meth c cX7_letsGo 4 RX7 D cI) (n : Nat) : ∀ {x1 x2 : Int32} {w : St}, f_X7_letsGo_L68 n x1 x2 w = some o → G p l e rm_X7_letsGo s m args below meth c D A 4 Q (wM ad cI) 0 0 118 [some (.ref (ad 0)), some (.int x1), none, none] [] o → G p l e rm_X7_letsGo s m args below meth c D A 4 Q (wM ad cI) 0 0 68 [some (.ref (ad 0)), some (.int x1), some (.int x2), none] [] w := by
  induction n with
  | zero => intro x1 x2 w hf; cases hf
  | succ n ih =>
    intro x1 x2 w hf k
    rw [f_X7_letsGo_L68] at hf
    refine g_iload_n X (i := 2) dX7_letsGo_68 rfl rfl ?_
    refine g_bipush X dX7_letsGo_69 (v := 8) (by decide) ?_
    refine g_icmp_ge X dX7_letsGo_71 (tgt := 118) (by decide) hf (fun c18 hf => ?_) (fun c18 hf => ?_)
    · refine g_aload_n X (i := 0) dX7_letsGo_74 rfl rfl ?_
      refine g_get X (q0 := 0) (v := .ref (ad 1)) 0 dX7_letsGo_75 gC_X7 rfl rfl (by decide) fl_X7_7 rfl rfl ?_
      refine g_sipush X dX7_letsGo_78 (v := 218) (by decide) ?_
      refine g_iload_n X (i := 2) dX7_letsGo_81 rfl rfl ?_
      refine g_iadd X dX7_letsGo_82 ?_
      refine g_aload_n X (i := 0) dX7_letsGo_83 rfl rfl ?_
      refine g_get X (q0 := 0) (v := .ref (ad 1)) 0 dX7_letsGo_84 gC_X7 rfl rfl (by decide) fl_X7_7 rfl rfl ?_
      refine g_sipush X dX7_letsGo_87 (v := 218) (by decide) ?_
      refine g_iload_n X (i := 2) dX7_letsGo_90 rfl rfl ?_
      refine g_iadd X dX7_letsGo_91 ?_
      obtain ⟨hb19, hf⟩ := hfg hf
      refine g_iald X (q0 := 1) (f := w.2 0) dX7_letsGo_92 rfl hb19 ?_
      refine g_iload_n X (i := 1) dX7_letsGo_93 rfl rfl ?_
      refine g_icmp_ne X dX7_letsGo_94 (tgt := 101) (by decide) hf (fun c20 hf => ?_) (fun c20 hf => ?_)
      · refine g_iconst X dX7_letsGo_97 (v := (-1)) (by decide) ?_
        refine g_goto X dX7_letsGo_98 (tgt := 111) (by decide) ?_
        obtain ⟨hb21, hf⟩ := hfg hf
        refine g_iast X (q0 := 1) (f := w.2 0) dX7_letsGo_111 rfl hb21 (awM_0 ad cI _ _ _) ?_
        refine g_iinc X (i := 2) (v := 1) dX7_letsGo_112 rfl (by decide) (by decide) rfl ?_
        refine g_goto X dX7_letsGo_115 (tgt := 68) (by decide) ?_
        exact ih hf k
      · refine g_aload_n X (i := 0) dX7_letsGo_101 rfl rfl ?_
        refine g_get X (q0 := 0) (v := .ref (ad 1)) 0 dX7_letsGo_102 gC_X7 rfl rfl (by decide) fl_X7_7 rfl rfl ?_
        refine g_sipush X dX7_letsGo_105 (v := 218) (by decide) ?_
        refine g_iload_n X (i := 2) dX7_letsGo_108 rfl rfl ?_
        refine g_iadd X dX7_letsGo_109 ?_
        obtain ⟨hb22, hf⟩ := hfg hf
        refine g_iald X (q0 := 1) (f := w.2 0) dX7_letsGo_110 rfl hb22 ?_
        obtain ⟨hb23, hf⟩ := hfg hf
        refine g_iast X (q0 := 1) (f := w.2 0) dX7_letsGo_111 rfl hb23 (awM_0 ad cI _ _ _) ?_
        refine g_iinc X (i := 2) (v := 1) dX7_letsGo_112 rfl (by decide) (by decide) rfl ?_
        refine g_goto X dX7_letsGo_115 (tgt := 68) (by decide) ?_
        exact ih hf k
    · obtain rfl := Option.some.inj hf
      refine g_sub (losub (lo' := [some (.ref (ad 0)), some (.int x1), none, none]) ⟨rfl, rfl, trivial⟩) ?_
      exact k
set_option maxRecDepth 100000 in
set_option maxHeartbeats 4000000 in
theorem c_X7_letsGo {l : Launch} {D : va_G} {cI : ClassId × ClassId} {A : Nat → Prop} {ad : Nat → Nat} {x1 : Int32} {w : St} {o : Int32 × St} (hf : f_X7_letsGo x1 w = some o) : CTv l D cI A yX7_letsGo cX7_letsGo 4 (none) rm_X7_letsGo [.ref (ad 0), .int x1] ((wM ad cI) w) ((wM ad cI) o.2)   := by
  refine CTv.of (by decide +kernel) rfl (Nat.le_of_ble_eq_true rfl) ?_
  intro p e s m args below meth c X hr
  have X : gX p s m args meth c cX7_letsGo 4 RX7 D cI := X
  show G _ _ _ _ _ _ _ _ _ _ _ _ _ _ _ _ _ 0 [some (.ref (ad 0)), some (.int x1), none, none] [] w
  unfold f_X7_letsGo at hf
  refine g_aload_n X (i := 0) dX7_letsGo_0 rfl rfl ?_
  refine g_iload_n X (i := 1) dX7_letsGo_1 rfl rfl ?_
  refine g_iconst X dX7_letsGo_2 (v := 0) (by decide) ?_
  refine g_iconst X dX7_letsGo_3 (v := 0) (by decide) ?_
  obtain ⟨o1, h2, hf⟩ := hfb hf
  refine g_Vv X (q0 := 0) (As := [.int x1, .int 0, .int 0]) (rest := []) (c_X7_sets h2) dX7_letsGo_4 ml_X7_58 yv_X7_sets rfl rfl rfl rfl ⟨Nat.le_of_ble_eq_true rfl, Nat.le_of_ble_eq_true rfl⟩ ⟨rfl, rfl⟩ (Nat.le_of_ble_eq_true rfl) ⟨Nat.le_of_ble_eq_true rfl, Nat.le_of_ble_eq_true rfl⟩ ?_
  refine g_iconst X dX7_letsGo_7 (v := 0) (by decide) ?_
  refine g_istore_n X (i := 2) dX7_letsGo_8 rfl (by decide) rfl ?_
  obtain ⟨o16, h17, hf⟩ := hfb hf
  refine gl_X7_letsGo_L9 X BIG h17 ?_
  refine g_iconst X dX7_letsGo_66 (v := 0) (by decide) ?_
  refine g_istore_n X (i := 2) dX7_letsGo_67 rfl (by decide) rfl ?_
  obtain ⟨o24, h25, hf⟩ := hfb hf
  refine gl_X7_letsGo_L68 X BIG h25 ?_
  refine g_aload_n X (i := 0) dX7_letsGo_118 rfl rfl ?_
  refine g_get X (q0 := 0) (v := .ref (ad 1)) 0 dX7_letsGo_119 gC_X7 rfl rfl (by decide) fl_X7_7 rfl rfl ?_
  refine g_sipush X dX7_letsGo_122 (v := 230) (by decide) ?_
  refine g_dup2 X dX7_letsGo_125 rfl rfl ?_
  obtain ⟨hb26, hf⟩ := hfg hf
  refine g_iald X (q0 := 1) (f := o24.2 0) dX7_letsGo_126 rfl hb26 ?_
  refine g_iconst X dX7_letsGo_127 (v := 1) (by decide) ?_
  refine g_iadd X dX7_letsGo_128 ?_
  obtain ⟨hb27, hf⟩ := hfg hf
  refine g_iast X (q0 := 1) (f := o24.2 0) dX7_letsGo_129 rfl hb27 (awM_0 ad cI _ _ _) ?_
  refine g_aload_n X (i := 0) dX7_letsGo_130 rfl rfl ?_
  refine g_get X (q0 := 0) (v := .ref (ad 1)) 0 dX7_letsGo_131 gC_X7 rfl rfl (by decide) fl_X7_7 rfl rfl ?_
  refine g_sipush X dX7_letsGo_134 (v := 233) (by decide) ?_
  refine g_dup2 X dX7_letsGo_137 rfl rfl ?_
  obtain ⟨hb28, hf⟩ := hfg hf
  refine g_iald X (q0 := 1) (f := (sA o24 0 230 ((o24.2 0 (230 : Int32).toNatClampNeg) + 1)).2 0) dX7_letsGo_138 rfl hb28 ?_
  refine g_iconst X dX7_letsGo_139 (v := 1) (by decide) ?_
  refine g_iload_n X (i := 1) dX7_letsGo_140 rfl rfl ?_
  refine g_ishl X dX7_letsGo_141 ?_
  refine g_ior X dX7_letsGo_142 ?_
  obtain ⟨hb29, hf⟩ := hfg hf
  refine g_iast X (q0 := 1) (f := (sA o24 0 230 ((o24.2 0 (230 : Int32).toNatClampNeg) + 1)).2 0) dX7_letsGo_143 rfl hb29 (awM_0 ad cI _ _ _) ?_
  exact g_vret X hr dX7_letsGo_144 hf
def f_X7_sweeps_L9 : Nat → Int32 → St → Option (Int32 × St)
  | 0, _, _ => none
  | n + 1, x1, w => (if x1 < 24 then (f_X7_of x1 0 w).bind fun o3 => (if o3.1 = 0 then f_X7_sweeps_L9 n (x1 + 1) o3.2 else some (x1, o3.2)) else some (x1, w))
def f_X7_sweeps (w : St) : Option (Int32 × St) := if ib 227 235 then (f_X7_sweeps_L9 BIG (w.2 0 (227 : Int32).toNatClampNeg) w).bind fun o6 => (if o6.1 = 24 then if ib 226 235 then some (0, sA o6.2 0 226 0) else none else (f_X7_of o6.1 5 o6.2).bind fun o10 => (if o10.1 = 0 then (f_X7_letsGo o6.1 o10.2).bind fun o13 => if ib 227 235 then some (0, sA o13.2 0 227 (o6.1 + 1)) else none else (f_X7_sets o6.1 5 0 o10.2).bind fun o16 => if ib 227 235 then some (0, sA o16.2 0 227 (o6.1 + 1)) else none)) else none
set_option maxRecDepth 100000 in
set_option maxHeartbeats 4000000 in
theorem gl_X7_sweeps_L9 {p : Program} {l : Launch} {e : Env} {s : State} {m : MethodId} {args : Array Value} {below : List Frame} {meth : Method} {c : Code} {D : va_G} {A : Nat → Prop} {cI : ClassId × ClassId} {ad : Nat → Nat} {Q : State → Prop} {o : Int32 × St} (X : gX p s m args meth c cX7_sweeps 2 RX7 D cI) (n : Nat) : ∀ {x1 : Int32} {w : St}, f_X7_sweeps_L9 n x1 w = some o → G p l e rm_X7_sweeps s m args below meth c D A 2 Q (wM ad cI) 0 0 30 [some (.ref (ad 0)), some (.int o.1)] [] o.2 → G p l e rm_X7_sweeps s m args below meth c D A 2 Q (wM ad cI) 0 0 9 [some (.ref (ad 0)), some (.int x1)] [] w := by
  induction n with
  | zero => intro x1 w hf; cases hf
  | succ n ih =>
    intro x1 w hf k
    rw [f_X7_sweeps_L9] at hf
    refine g_iload_n X (i := 1) dX7_sweeps_9 rfl rfl ?_
    refine g_bipush X dX7_sweeps_10 (v := 24) (by decide) ?_
    refine g_icmp_ge X dX7_sweeps_12 (tgt := 30) (by decide) hf (fun c2 hf => ?_) (fun c2 hf => ?_)
    · refine g_aload_n X (i := 0) dX7_sweeps_15 rfl rfl ?_
      refine g_iload_n X (i := 1) dX7_sweeps_16 rfl rfl ?_
      refine g_iconst X dX7_sweeps_17 (v := 0) (by decide) ?_
      obtain ⟨o3, h4, hf⟩ := hfb hf
      refine g_Vi X (q0 := 0) (As := [.int x1, .int 0]) (rest := []) (c_X7_of h4) dX7_sweeps_18 ml_X7_43 yv_X7_of rfl rfl rfl rfl ⟨Nat.le_of_ble_eq_true rfl, Nat.le_of_ble_eq_true rfl⟩ ⟨rfl, rfl⟩ (Nat.le_of_ble_eq_true rfl) ⟨Nat.le_of_ble_eq_true rfl, Nat.le_of_ble_eq_true rfl⟩ ?_
      refine g_if_ne X dX7_sweeps_21 (tgt := 30) (by decide) hf (fun c5 hf => ?_) (fun c5 hf => ?_)
      · refine g_iinc X (i := 1) (v := 1) dX7_sweeps_24 rfl (by decide) (by decide) rfl ?_
        refine g_goto X dX7_sweeps_27 (tgt := 9) (by decide) ?_
        exact ih hf k
      · obtain rfl := Option.some.inj hf
        exact k
    · obtain rfl := Option.some.inj hf
      exact k
set_option maxRecDepth 100000 in
set_option maxHeartbeats 4000000 in
theorem c_X7_sweeps {l : Launch} {D : va_G} {cI : ClassId × ClassId} {A : Nat → Prop} {ad : Nat → Nat} {w : St} {o : Int32 × St} (hf : f_X7_sweeps w = some o) : CTv l D cI A yX7_sweeps cX7_sweeps 2 (none) rm_X7_sweeps [.ref (ad 0)] ((wM ad cI) w) ((wM ad cI) o.2)   := by
  refine CTv.of (by decide +kernel) rfl (Nat.le_of_ble_eq_true rfl) ?_
  intro p e s m args below meth c X hr
  have X : gX p s m args meth c cX7_sweeps 2 RX7 D cI := X
  show G _ _ _ _ _ _ _ _ _ _ _ _ _ _ _ _ _ 0 [some (.ref (ad 0)), none] [] w
  unfold f_X7_sweeps at hf
  refine g_aload_n X (i := 0) dX7_sweeps_0 rfl rfl ?_
  refine g_get X (q0 := 0) (v := .ref (ad 1)) 0 dX7_sweeps_1 gC_X7 rfl rfl (by decide) fl_X7_7 rfl rfl ?_
  refine g_sipush X dX7_sweeps_4 (v := 227) (by decide) ?_
  obtain ⟨hb1, hf⟩ := hfg hf
  refine g_iald X (q0 := 1) (f := w.2 0) dX7_sweeps_7 rfl hb1 ?_
  refine g_istore_n X (i := 1) dX7_sweeps_8 rfl (by decide) rfl ?_
  obtain ⟨o6, h7, hf⟩ := hfb hf
  refine gl_X7_sweeps_L9 X BIG h7 ?_
  refine g_iload_n X (i := 1) dX7_sweeps_30 rfl rfl ?_
  refine g_bipush X dX7_sweeps_31 (v := 24) (by decide) ?_
  refine g_icmp_ne X dX7_sweeps_33 (tgt := 46) (by decide) hf (fun c8 hf => ?_) (fun c8 hf => ?_)
  · refine g_aload_n X (i := 0) dX7_sweeps_36 rfl rfl ?_
    refine g_get X (q0 := 0) (v := .ref (ad 1)) 0 dX7_sweeps_37 gC_X7 rfl rfl (by decide) fl_X7_7 rfl rfl ?_
    refine g_sipush X dX7_sweeps_40 (v := 226) (by decide) ?_
    refine g_iconst X dX7_sweeps_43 (v := 0) (by decide) ?_
    obtain ⟨hb9, hf⟩ := hfg hf
    refine g_iast X (q0 := 1) (f := o6.2.2 0) dX7_sweeps_44 rfl hb9 (awM_0 ad cI _ _ _) ?_
    exact g_vret X hr dX7_sweeps_45 hf
  · refine g_aload_n X (i := 0) dX7_sweeps_46 rfl rfl ?_
    refine g_iload_n X (i := 1) dX7_sweeps_47 rfl rfl ?_
    refine g_iconst X dX7_sweeps_48 (v := 5) (by decide) ?_
    obtain ⟨o10, h11, hf⟩ := hfb hf
    refine g_Vi X (q0 := 0) (As := [.int o6.1, .int 5]) (rest := []) (c_X7_of h11) dX7_sweeps_49 ml_X7_43 yv_X7_of rfl rfl rfl rfl ⟨Nat.le_of_ble_eq_true rfl, Nat.le_of_ble_eq_true rfl⟩ ⟨rfl, rfl⟩ (Nat.le_of_ble_eq_true rfl) ⟨Nat.le_of_ble_eq_true rfl, Nat.le_of_ble_eq_true rfl⟩ ?_
    refine g_if_ne X dX7_sweeps_52 (tgt := 63) (by decide) hf (fun c12 hf => ?_) (fun c12 hf => ?_)
    · refine g_aload_n X (i := 0) dX7_sweeps_55 rfl rfl ?_
      refine g_iload_n X (i := 1) dX7_sweeps_56 rfl rfl ?_
      obtain ⟨o13, h14, hf⟩ := hfb hf
      refine g_Vv X (q0 := 0) (As := [.int o6.1]) (rest := []) (c_X7_letsGo h14) dX7_sweeps_57 ml_X7_105 yv_X7_letsGo rfl rfl rfl rfl ⟨Nat.le_of_ble_eq_true rfl, Nat.le_of_ble_eq_true rfl⟩ ⟨rfl, rfl⟩ (Nat.le_of_ble_eq_true rfl) ⟨Nat.le_of_ble_eq_true rfl, Nat.le_of_ble_eq_true rfl⟩ ?_
      refine g_goto X dX7_sweeps_60 (tgt := 70) (by decide) ?_
      refine g_aload_n X (i := 0) dX7_sweeps_70 rfl rfl ?_
      refine g_get X (q0 := 0) (v := .ref (ad 1)) 0 dX7_sweeps_71 gC_X7 rfl rfl (by decide) fl_X7_7 rfl rfl ?_
      refine g_sipush X dX7_sweeps_74 (v := 227) (by decide) ?_
      refine g_iload_n X (i := 1) dX7_sweeps_77 rfl rfl ?_
      refine g_iconst X dX7_sweeps_78 (v := 1) (by decide) ?_
      refine g_iadd X dX7_sweeps_79 ?_
      obtain ⟨hb15, hf⟩ := hfg hf
      refine g_iast X (q0 := 1) (f := o13.2.2 0) dX7_sweeps_80 rfl hb15 (awM_0 ad cI _ _ _) ?_
      exact g_vret X hr dX7_sweeps_81 hf
    · refine g_aload_n X (i := 0) dX7_sweeps_63 rfl rfl ?_
      refine g_iload_n X (i := 1) dX7_sweeps_64 rfl rfl ?_
      refine g_iconst X dX7_sweeps_65 (v := 5) (by decide) ?_
      refine g_iconst X dX7_sweeps_66 (v := 0) (by decide) ?_
      obtain ⟨o16, h17, hf⟩ := hfb hf
      refine g_Vv X (q0 := 0) (As := [.int o6.1, .int 5, .int 0]) (rest := []) (c_X7_sets h17) dX7_sweeps_67 ml_X7_58 yv_X7_sets rfl rfl rfl rfl ⟨Nat.le_of_ble_eq_true rfl, Nat.le_of_ble_eq_true rfl⟩ ⟨rfl, rfl⟩ (Nat.le_of_ble_eq_true rfl) ⟨Nat.le_of_ble_eq_true rfl, Nat.le_of_ble_eq_true rfl⟩ ?_
      refine g_aload_n X (i := 0) dX7_sweeps_70 rfl rfl ?_
      refine g_get X (q0 := 0) (v := .ref (ad 1)) 0 dX7_sweeps_71 gC_X7 rfl rfl (by decide) fl_X7_7 rfl rfl ?_
      refine g_sipush X dX7_sweeps_74 (v := 227) (by decide) ?_
      refine g_iload_n X (i := 1) dX7_sweeps_77 rfl rfl ?_
      refine g_iconst X dX7_sweeps_78 (v := 1) (by decide) ?_
      refine g_iadd X dX7_sweeps_79 ?_
      obtain ⟨hb18, hf⟩ := hfg hf
      refine g_iast X (q0 := 1) (f := o16.2.2 0) dX7_sweeps_80 rfl hb18 (awM_0 ad cI _ _ _) ?_
      exact g_vret X hr dX7_sweeps_81 hf
def f_X7_steps (w : St) : Option (Int32 × St) := if ib 232 235 then if ib 232 235 then if ib 226 235 then (if ((sA w 0 232 ((w.2 0 (232 : Int32).toNatClampNeg) + 1)).2 0 (226 : Int32).toNatClampNeg) = 3 then (f_X7_sweeps (sA w 0 232 ((w.2 0 (232 : Int32).toNatClampNeg) + 1))).bind fun o5 => some (0, o5.2) else if ib 168 235 then (if (0 : Int32) < ((sA w 0 232 ((w.2 0 (232 : Int32).toNatClampNeg) + 1)).2 0 (168 : Int32).toNatClampNeg) then (f_X7_blackens (sA w 0 232 ((w.2 0 (232 : Int32).toNatClampNeg) + 1))).bind fun o9 => some (0, o9.2) else if ib 226 235 then (if ((sA w 0 232 ((w.2 0 (232 : Int32).toNatClampNeg) + 1)).2 0 (226 : Int32).toNatClampNeg) = 1 then (f_X7_clears (sA w 0 232 ((w.2 0 (232 : Int32).toNatClampNeg) + 1))).bind fun o13 => if ib 226 235 then some (0, sA o13.2 0 226 2) else none else (f_X7_looksForFinish (sA w 0 232 ((w.2 0 (232 : Int32).toNatClampNeg) + 1))).bind fun o16 => some (0, o16.2)) else none) else none) else none else none else none
set_option maxRecDepth 100000 in
set_option maxHeartbeats 4000000 in
theorem c_X7_steps {l : Launch} {D : va_G} {cI : ClassId × ClassId} {A : Nat → Prop} {ad : Nat → Nat} {w : St} {o : Int32 × St} (hf : f_X7_steps w = some o) : CTv l D cI A yX7_steps cX7_steps 1 (none) rm_X7_steps [.ref (ad 0)] ((wM ad cI) w) ((wM ad cI) o.2)   := by
  refine CTv.of (by decide +kernel) rfl (Nat.le_of_ble_eq_true rfl) ?_
  intro p e s m args below meth c X hr
  have X : gX p s m args meth c cX7_steps 1 RX7 D cI := X
  show G _ _ _ _ _ _ _ _ _ _ _ _ _ _ _ _ _ 0 [some (.ref (ad 0))] [] w
  unfold f_X7_steps at hf
  refine g_aload_n X (i := 0) dX7_steps_0 rfl rfl ?_
  refine g_get X (q0 := 0) (v := .ref (ad 1)) 0 dX7_steps_1 gC_X7 rfl rfl (by decide) fl_X7_7 rfl rfl ?_
  refine g_sipush X dX7_steps_4 (v := 232) (by decide) ?_
  refine g_dup2 X dX7_steps_7 rfl rfl ?_
  obtain ⟨hb1, hf⟩ := hfg hf
  refine g_iald X (q0 := 1) (f := w.2 0) dX7_steps_8 rfl hb1 ?_
  refine g_iconst X dX7_steps_9 (v := 1) (by decide) ?_
  refine g_iadd X dX7_steps_10 ?_
  obtain ⟨hb2, hf⟩ := hfg hf
  refine g_iast X (q0 := 1) (f := w.2 0) dX7_steps_11 rfl hb2 (awM_0 ad cI _ _ _) ?_
  refine g_aload_n X (i := 0) dX7_steps_12 rfl rfl ?_
  refine g_get X (q0 := 0) (v := .ref (ad 1)) 0 dX7_steps_13 gC_X7 rfl rfl (by decide) fl_X7_7 rfl rfl ?_
  refine g_sipush X dX7_steps_16 (v := 226) (by decide) ?_
  obtain ⟨hb3, hf⟩ := hfg hf
  refine g_iald X (q0 := 1) (f := (sA w 0 232 ((w.2 0 (232 : Int32).toNatClampNeg) + 1)).2 0) dX7_steps_19 rfl hb3 ?_
  refine g_iconst X dX7_steps_20 (v := 3) (by decide) ?_
  refine g_icmp_ne X dX7_steps_21 (tgt := 31) (by decide) hf (fun c4 hf => ?_) (fun c4 hf => ?_)
  · refine g_aload_n X (i := 0) dX7_steps_24 rfl rfl ?_
    obtain ⟨o5, h6, hf⟩ := hfb hf
    refine g_Vv X (q0 := 0) (As := []) (rest := []) (c_X7_sweeps h6) dX7_steps_25 ml_X7_108 yv_X7_sweeps rfl rfl rfl rfl ⟨Nat.le_of_ble_eq_true rfl, Nat.le_of_ble_eq_true rfl⟩ ⟨rfl, rfl⟩ (Nat.le_of_ble_eq_true rfl) ⟨Nat.le_of_ble_eq_true rfl, Nat.le_of_ble_eq_true rfl⟩ ?_
    refine g_goto X dX7_steps_28 (tgt := 81) (by decide) ?_
    exact g_vret X hr dX7_steps_81 hf
  · refine g_aload_n X (i := 0) dX7_steps_31 rfl rfl ?_
    refine g_get X (q0 := 0) (v := .ref (ad 1)) 0 dX7_steps_32 gC_X7 rfl rfl (by decide) fl_X7_7 rfl rfl ?_
    refine g_sipush X dX7_steps_35 (v := 168) (by decide) ?_
    obtain ⟨hb7, hf⟩ := hfg hf
    refine g_iald X (q0 := 1) (f := (sA w 0 232 ((w.2 0 (232 : Int32).toNatClampNeg) + 1)).2 0) dX7_steps_38 rfl hb7 ?_
    refine g_if_le X dX7_steps_39 (tgt := 49) (by decide) hf (fun c8 hf => ?_) (fun c8 hf => ?_)
    · refine g_aload_n X (i := 0) dX7_steps_42 rfl rfl ?_
      obtain ⟨o9, h10, hf⟩ := hfb hf
      refine g_Vv X (q0 := 0) (As := []) (rest := []) (c_X7_blackens h10) dX7_steps_43 ml_X7_111 yv_X7_blackens rfl rfl rfl rfl ⟨Nat.le_of_ble_eq_true rfl, Nat.le_of_ble_eq_true rfl⟩ ⟨rfl, rfl⟩ (Nat.le_of_ble_eq_true rfl) ⟨Nat.le_of_ble_eq_true rfl, Nat.le_of_ble_eq_true rfl⟩ ?_
      refine g_goto X dX7_steps_46 (tgt := 81) (by decide) ?_
      exact g_vret X hr dX7_steps_81 hf
    · refine g_aload_n X (i := 0) dX7_steps_49 rfl rfl ?_
      refine g_get X (q0 := 0) (v := .ref (ad 1)) 0 dX7_steps_50 gC_X7 rfl rfl (by decide) fl_X7_7 rfl rfl ?_
      refine g_sipush X dX7_steps_53 (v := 226) (by decide) ?_
      obtain ⟨hb11, hf⟩ := hfg hf
      refine g_iald X (q0 := 1) (f := (sA w 0 232 ((w.2 0 (232 : Int32).toNatClampNeg) + 1)).2 0) dX7_steps_56 rfl hb11 ?_
      refine g_iconst X dX7_steps_57 (v := 1) (by decide) ?_
      refine g_icmp_ne X dX7_steps_58 (tgt := 77) (by decide) hf (fun c12 hf => ?_) (fun c12 hf => ?_)
      · refine g_aload_n X (i := 0) dX7_steps_61 rfl rfl ?_
        obtain ⟨o13, h14, hf⟩ := hfb hf
        refine g_Vv X (q0 := 0) (As := []) (rest := []) (c_X7_clears h14) dX7_steps_62 ml_X7_102 yv_X7_clears rfl rfl rfl rfl ⟨Nat.le_of_ble_eq_true rfl, Nat.le_of_ble_eq_true rfl⟩ ⟨rfl, rfl⟩ (Nat.le_of_ble_eq_true rfl) ⟨Nat.le_of_ble_eq_true rfl, Nat.le_of_ble_eq_true rfl⟩ ?_
        refine g_aload_n X (i := 0) dX7_steps_65 rfl rfl ?_
        refine g_get X (q0 := 0) (v := .ref (ad 1)) 0 dX7_steps_66 gC_X7 rfl rfl (by decide) fl_X7_7 rfl rfl ?_
        refine g_sipush X dX7_steps_69 (v := 226) (by decide) ?_
        refine g_iconst X dX7_steps_72 (v := 2) (by decide) ?_
        obtain ⟨hb15, hf⟩ := hfg hf
        refine g_iast X (q0 := 1) (f := o13.2.2 0) dX7_steps_73 rfl hb15 (awM_0 ad cI _ _ _) ?_
        refine g_goto X dX7_steps_74 (tgt := 81) (by decide) ?_
        exact g_vret X hr dX7_steps_81 hf
      · refine g_aload_n X (i := 0) dX7_steps_77 rfl rfl ?_
        obtain ⟨o16, h17, hf⟩ := hfb hf
        refine g_Vv X (q0 := 0) (As := []) (rest := []) (c_X7_looksForFinish h17) dX7_steps_78 ml_X7_114 yv_X7_looksForFinish rfl rfl rfl rfl ⟨Nat.le_of_ble_eq_true rfl, Nat.le_of_ble_eq_true rfl⟩ ⟨rfl, rfl⟩ (Nat.le_of_ble_eq_true rfl) ⟨Nat.le_of_ble_eq_true rfl, Nat.le_of_ble_eq_true rfl⟩ ?_
        exact g_vret X hr dX7_steps_81 hf
def f_X7_doesAll_L17 : Nat → Int32 → St → Option (Int32 × St)
  | 0, _, _ => none
  | n + 1, x1, w => if ib 226 235 then (if (0 : Int32) < (w.2 0 (226 : Int32).toNatClampNeg) then (f_X7_steps w).bind fun o7 => f_X7_doesAll_L17 n (x1 + 1) o7.2 else some (x1, w)) else none
def f_X7_doesAll (w : St) : Option (Int32 × St) := if ib 226 235 then (if (w.2 0 (226 : Int32).toNatClampNeg) = 0 then (f_X7_begins w).bind fun o3 => (f_X7_doesAll_L17 BIG 0 o3.2).bind fun o9 => some (o9.1, o9.2) else (f_X7_doesAll_L17 BIG 0 w).bind fun o11 => some (o11.1, o11.2)) else none
set_option maxRecDepth 100000 in
set_option maxHeartbeats 4000000 in
theorem gl_X7_doesAll_L17 {p : Program} {l : Launch} {e : Env} {s : State} {m : MethodId} {args : Array Value} {below : List Frame} {meth : Method} {c : Code} {D : va_G} {A : Nat → Prop} {cI : ClassId × ClassId} {ad : Nat → Nat} {Q : State → Prop} {o : Int32 × St} (X : gX p s m args meth c cX7_doesAll 2 RX7 D cI) (n : Nat) : ∀ {x1 : Int32} {w : St}, f_X7_doesAll_L17 n x1 w = some o → G p l e rm_X7_doesAll s m args below meth c D A 2 Q (wM ad cI) 0 0 38 [none, some (.int o.1)] [] o.2 → G p l e rm_X7_doesAll s m args below meth c D A 2 Q (wM ad cI) 0 0 17 [some (.ref (ad 0)), some (.int x1)] [] w := by
  induction n with
  | zero => intro x1 w hf; cases hf
  | succ n ih =>
    intro x1 w hf k
    rw [f_X7_doesAll_L17] at hf
    refine g_aload_n X (i := 0) dX7_doesAll_17 rfl rfl ?_
    refine g_get X (q0 := 0) (v := .ref (ad 1)) 0 dX7_doesAll_18 gC_X7 rfl rfl (by decide) fl_X7_7 rfl rfl ?_
    refine g_sipush X dX7_doesAll_21 (v := 226) (by decide) ?_
    obtain ⟨hb5, hf⟩ := hfg hf
    refine g_iald X (q0 := 1) (f := w.2 0) dX7_doesAll_24 rfl hb5 ?_
    refine g_if_le X dX7_doesAll_25 (tgt := 38) (by decide) hf (fun c6 hf => ?_) (fun c6 hf => ?_)
    · refine g_aload_n X (i := 0) dX7_doesAll_28 rfl rfl ?_
      obtain ⟨o7, h8, hf⟩ := hfb hf
      refine g_Vv X (q0 := 0) (As := []) (rest := []) (c_X7_steps h8) dX7_doesAll_29 ml_X7_117 yv_X7_steps rfl rfl rfl rfl ⟨Nat.le_of_ble_eq_true rfl, Nat.le_of_ble_eq_true rfl⟩ ⟨rfl, rfl⟩ (Nat.le_of_ble_eq_true rfl) ⟨Nat.le_of_ble_eq_true rfl, Nat.le_of_ble_eq_true rfl⟩ ?_
      refine g_iinc X (i := 1) (v := 1) dX7_doesAll_32 rfl (by decide) (by decide) rfl ?_
      refine g_goto X dX7_doesAll_35 (tgt := 17) (by decide) ?_
      exact ih hf k
    · obtain rfl := Option.some.inj hf
      refine g_sub (losub (lo' := [none, some (.int x1)]) ⟨rfl, trivial⟩) ?_
      exact k
set_option maxRecDepth 100000 in
set_option maxHeartbeats 4000000 in
theorem c_X7_doesAll {l : Launch} {D : va_G} {cI : ClassId × ClassId} {A : Nat → Prop} {ad : Nat → Nat} {w : St} {o : Int32 × St} (hf : f_X7_doesAll w = some o) : CTi l D cI A yX7_doesAll cX7_doesAll 2 (some .int) rm_X7_doesAll [.ref (ad 0)] ((wM ad cI) w) o.1 ((wM ad cI) o.2)   := by
  refine CTi.of (by decide +kernel) rfl (Nat.le_of_ble_eq_true rfl) ?_
  intro p e s m args below meth c X hr
  have X : gX p s m args meth c cX7_doesAll 2 RX7 D cI := X
  show G _ _ _ _ _ _ _ _ _ _ _ _ _ _ _ _ _ 0 [some (.ref (ad 0)), none] [] w
  unfold f_X7_doesAll at hf
  refine g_aload_n X (i := 0) dX7_doesAll_0 rfl rfl ?_
  refine g_get X (q0 := 0) (v := .ref (ad 1)) 0 dX7_doesAll_1 gC_X7 rfl rfl (by decide) fl_X7_7 rfl rfl ?_
  refine g_sipush X dX7_doesAll_4 (v := 226) (by decide) ?_
  obtain ⟨hb1, hf⟩ := hfg hf
  refine g_iald X (q0 := 1) (f := w.2 0) dX7_doesAll_7 rfl hb1 ?_
  refine g_if_ne X dX7_doesAll_8 (tgt := 15) (by decide) hf (fun c2 hf => ?_) (fun c2 hf => ?_)
  · refine g_aload_n X (i := 0) dX7_doesAll_11 rfl rfl ?_
    obtain ⟨o3, h4, hf⟩ := hfb hf
    refine g_Vv X (q0 := 0) (As := []) (rest := []) (c_X7_begins h4) dX7_doesAll_12 ml_X7_99 yv_X7_begins rfl rfl rfl rfl ⟨Nat.le_of_ble_eq_true rfl, Nat.le_of_ble_eq_true rfl⟩ ⟨rfl, rfl⟩ (Nat.le_of_ble_eq_true rfl) ⟨Nat.le_of_ble_eq_true rfl, Nat.le_of_ble_eq_true rfl⟩ ?_
    refine g_iconst X dX7_doesAll_15 (v := 0) (by decide) ?_
    refine g_istore_n X (i := 1) dX7_doesAll_16 rfl (by decide) rfl ?_
    obtain ⟨o9, h10, hf⟩ := hfb hf
    refine gl_X7_doesAll_L17 X BIG h10 ?_
    refine g_iload_n X (i := 1) dX7_doesAll_38 rfl rfl ?_
    exact g_iret X hr dX7_doesAll_39 hf
  · refine g_iconst X dX7_doesAll_15 (v := 0) (by decide) ?_
    refine g_istore_n X (i := 1) dX7_doesAll_16 rfl (by decide) rfl ?_
    obtain ⟨o11, h12, hf⟩ := hfb hf
    refine gl_X7_doesAll_L17 X BIG h12 ?_
    refine g_iload_n X (i := 1) dX7_doesAll_38 rfl rfl ?_
    exact g_iret X hr dX7_doesAll_39 hf
def f_X7_all (w : St) : Option (Int32 × St) := (f_X7_changes w).bind fun o1 => (f_X7_doesAll o1.2).bind fun o3 => some (o3.1, o3.2)
set_option maxRecDepth 100000 in
set_option maxHeartbeats 4000000 in
theorem c_X7_all {l : Launch} {D : va_G} {cI : ClassId × ClassId} {A : Nat → Prop} {ad : Nat → Nat} {w : St} {o : Int32 × St} (hf : f_X7_all w = some o) : CTi l D cI A yX7_all cX7_all 1 (some .int) rm_X7_all [.ref (ad 0)] ((wM ad cI) w) o.1 ((wM ad cI) o.2)   := by
  refine CTi.of (by decide +kernel) rfl (Nat.le_of_ble_eq_true rfl) ?_
  intro p e s m args below meth c X hr
  have X : gX p s m args meth c cX7_all 1 RX7 D cI := X
  show G _ _ _ _ _ _ _ _ _ _ _ _ _ _ _ _ _ 0 [some (.ref (ad 0))] [] w
  unfold f_X7_all at hf
  refine g_aload_n X (i := 0) dX7_all_0 rfl rfl ?_
  obtain ⟨o1, h2, hf⟩ := hfb hf
  refine g_Vv X (q0 := 0) (As := []) (rest := []) (c_X7_changes h2) dX7_all_1 ml_X7_81 yv_X7_changes rfl rfl rfl rfl ⟨Nat.le_of_ble_eq_true rfl, Nat.le_of_ble_eq_true rfl⟩ ⟨rfl, rfl⟩ (Nat.le_of_ble_eq_true rfl) ⟨Nat.le_of_ble_eq_true rfl, Nat.le_of_ble_eq_true rfl⟩ ?_
  refine g_aload_n X (i := 0) dX7_all_4 rfl rfl ?_
  obtain ⟨o3, h4, hf⟩ := hfb hf
  refine g_Vi X (q0 := 0) (As := []) (rest := []) (c_X7_doesAll h4) dX7_all_5 ml_X7_120 yv_X7_doesAll rfl rfl rfl rfl ⟨Nat.le_of_ble_eq_true rfl, Nat.le_of_ble_eq_true rfl⟩ ⟨rfl, rfl⟩ (Nat.le_of_ble_eq_true rfl) ⟨Nat.le_of_ble_eq_true rfl, Nat.le_of_ble_eq_true rfl⟩ ?_
  exact g_iret X hr dX7_all_8 hf
def f_X7_isMarking (w : St) : Option (Int32 × St) := if ib 226 235 then (if (w.2 0 (226 : Int32).toNatClampNeg) = 1 then some (1, w) else if ib 226 235 then (if (w.2 0 (226 : Int32).toNatClampNeg) = 2 then some (1, w) else some (0, w)) else none) else none
set_option maxRecDepth 100000 in
set_option maxHeartbeats 4000000 in
theorem c_X7_isMarking {l : Launch} {D : va_G} {cI : ClassId × ClassId} {A : Nat → Prop} {ad : Nat → Nat} {w : St} {o : Int32 × St} (hf : f_X7_isMarking w = some o) : CTi l D cI A yX7_isMarking cX7_isMarking 1 (some .boolean) rm_X7_isMarking [.ref (ad 0)] ((wM ad cI) w) o.1 ((wM ad cI) o.2)   := by
  refine CTi.of (by decide +kernel) rfl (Nat.le_of_ble_eq_true rfl) ?_
  intro p e s m args below meth c X hr
  have X : gX p s m args meth c cX7_isMarking 1 RX7 D cI := X
  show G _ _ _ _ _ _ _ _ _ _ _ _ _ _ _ _ _ 0 [some (.ref (ad 0))] [] w
  unfold f_X7_isMarking at hf
  refine g_aload_n X (i := 0) dX7_isMarking_0 rfl rfl ?_
  refine g_get X (q0 := 0) (v := .ref (ad 1)) 0 dX7_isMarking_1 gC_X7 rfl rfl (by decide) fl_X7_7 rfl rfl ?_
  refine g_sipush X dX7_isMarking_4 (v := 226) (by decide) ?_
  obtain ⟨hb1, hf⟩ := hfg hf
  refine g_iald X (q0 := 1) (f := w.2 0) dX7_isMarking_7 rfl hb1 ?_
  refine g_iconst X dX7_isMarking_8 (v := 1) (by decide) ?_
  refine g_icmp_eq X dX7_isMarking_9 (tgt := 24) (by decide) hf (fun c2 hf => ?_) (fun c2 hf => ?_)
  · refine g_iconst X dX7_isMarking_24 (v := 1) (by decide) ?_
    refine g_goto X dX7_isMarking_25 (tgt := 29) (by decide) ?_
    exact g_zret X hr dX7_isMarking_29 rfl hf
  · refine g_aload_n X (i := 0) dX7_isMarking_12 rfl rfl ?_
    refine g_get X (q0 := 0) (v := .ref (ad 1)) 0 dX7_isMarking_13 gC_X7 rfl rfl (by decide) fl_X7_7 rfl rfl ?_
    refine g_sipush X dX7_isMarking_16 (v := 226) (by decide) ?_
    obtain ⟨hb3, hf⟩ := hfg hf
    refine g_iald X (q0 := 1) (f := w.2 0) dX7_isMarking_19 rfl hb3 ?_
    refine g_iconst X dX7_isMarking_20 (v := 2) (by decide) ?_
    refine g_icmp_ne X dX7_isMarking_21 (tgt := 28) (by decide) hf (fun c4 hf => ?_) (fun c4 hf => ?_)
    · refine g_iconst X dX7_isMarking_24 (v := 1) (by decide) ?_
      refine g_goto X dX7_isMarking_25 (tgt := 29) (by decide) ?_
      exact g_zret X hr dX7_isMarking_29 rfl hf
    · refine g_iconst X dX7_isMarking_28 (v := 0) (by decide) ?_
      exact g_zret X hr dX7_isMarking_29 rfl hf
def f_X7_cares (x1 x2 x3 : Int32) (w : St) : Option (Int32 × St) := (f_X7_isMarking w).bind fun o1 => (if o1.1 = 0 then some (0, o1.2) else if ib 234 235 then (if (o1.2.2 0 (234 : Int32).toNatClampNeg) = 1 then (if x3 = 0 then if ib 234 235 then (if (o1.2.2 0 (234 : Int32).toNatClampNeg) = 2 then (if x1 = x2 then some (0, o1.2) else (f_X7_shades x1 o1.2).bind fun o10 => some (0, o10.2)) else some (0, o1.2)) else none else (f_X7_shades x2 o1.2).bind fun o12 => if ib 234 235 then (if (o12.2.2 0 (234 : Int32).toNatClampNeg) = 2 then (if x1 = x2 then some (0, o12.2) else (f_X7_shades x1 o12.2).bind fun o17 => some (0, o17.2)) else some (0, o12.2)) else none) else if ib 234 235 then (if (o1.2.2 0 (234 : Int32).toNatClampNeg) = 2 then (if x1 = x2 then some (0, o1.2) else (f_X7_shades x1 o1.2).bind fun o22 => some (0, o22.2)) else some (0, o1.2)) else none) else none)
set_option maxRecDepth 100000 in
set_option maxHeartbeats 4000000 in
theorem c_X7_cares {l : Launch} {D : va_G} {cI : ClassId × ClassId} {A : Nat → Prop} {ad : Nat → Nat} {x1 x2 x3 : Int32} {w : St} {o : Int32 × St} (hf : f_X7_cares x1 x2 x3 w = some o) : CTv l D cI A yX7_cares cX7_cares 4 (none) rm_X7_cares [.ref (ad 0), .int x1, .int x2, .int x3] ((wM ad cI) w) ((wM ad cI) o.2)   := by
  refine CTv.of (by decide +kernel) rfl (Nat.le_of_ble_eq_true rfl) ?_
  intro p e s m args below meth c X hr
  have X : gX p s m args meth c cX7_cares 4 RX7 D cI := X
  show G _ _ _ _ _ _ _ _ _ _ _ _ _ _ _ _ _ 0 [some (.ref (ad 0)), some (.int x1), some (.int x2), some (.int x3)] [] w
  unfold f_X7_cares at hf
  refine g_aload_n X (i := 0) dX7_cares_0 rfl rfl ?_
  obtain ⟨o1, h2, hf⟩ := hfb hf
  refine g_Vi X (q0 := 0) (As := []) (rest := []) (c_X7_isMarking h2) dX7_cares_1 ml_X7_62 yv_X7_isMarking rfl rfl rfl rfl ⟨Nat.le_of_ble_eq_true rfl, Nat.le_of_ble_eq_true rfl⟩ ⟨rfl, rfl⟩ (Nat.le_of_ble_eq_true rfl) ⟨Nat.le_of_ble_eq_true rfl, Nat.le_of_ble_eq_true rfl⟩ ?_
  refine g_if_ne X dX7_cares_4 (tgt := 8) (by decide) hf (fun c3 hf => ?_) (fun c3 hf => ?_)
  · exact g_vret X hr dX7_cares_7 hf
  · refine g_aload_n X (i := 0) dX7_cares_8 rfl rfl ?_
    refine g_get X (q0 := 0) (v := .ref (ad 1)) 0 dX7_cares_9 gC_X7 rfl rfl (by decide) fl_X7_7 rfl rfl ?_
    refine g_sipush X dX7_cares_12 (v := 234) (by decide) ?_
    obtain ⟨hb4, hf⟩ := hfg hf
    refine g_iald X (q0 := 1) (f := o1.2.2 0) dX7_cares_15 rfl hb4 ?_
    refine g_iconst X dX7_cares_16 (v := 1) (by decide) ?_
    refine g_icmp_ne X dX7_cares_17 (tgt := 29) (by decide) hf (fun c5 hf => ?_) (fun c5 hf => ?_)
    · refine g_iload_n X (i := 3) dX7_cares_20 rfl rfl ?_
      refine g_if_eq X dX7_cares_21 (tgt := 29) (by decide) hf (fun c6 hf => ?_) (fun c6 hf => ?_)
      · refine g_aload_n X (i := 0) dX7_cares_29 rfl rfl ?_
        refine g_get X (q0 := 0) (v := .ref (ad 1)) 0 dX7_cares_30 gC_X7 rfl rfl (by decide) fl_X7_7 rfl rfl ?_
        refine g_sipush X dX7_cares_33 (v := 234) (by decide) ?_
        obtain ⟨hb7, hf⟩ := hfg hf
        refine g_iald X (q0 := 1) (f := o1.2.2 0) dX7_cares_36 rfl hb7 ?_
        refine g_iconst X dX7_cares_37 (v := 2) (by decide) ?_
        refine g_icmp_ne X dX7_cares_38 (tgt := 51) (by decide) hf (fun c8 hf => ?_) (fun c8 hf => ?_)
        · refine g_iload_n X (i := 1) dX7_cares_41 rfl rfl ?_
          refine g_iload_n X (i := 2) dX7_cares_42 rfl rfl ?_
          refine g_icmp_eq X dX7_cares_43 (tgt := 51) (by decide) hf (fun c9 hf => ?_) (fun c9 hf => ?_)
          · exact g_vret X hr dX7_cares_51 hf
          · refine g_aload_n X (i := 0) dX7_cares_46 rfl rfl ?_
            refine g_iload_n X (i := 1) dX7_cares_47 rfl rfl ?_
            obtain ⟨o10, h11, hf⟩ := hfb hf
            refine g_Vv X (q0 := 0) (As := [.int x1]) (rest := []) (c_X7_shades h11) dX7_cares_48 ml_X7_66 yv_X7_shades rfl rfl rfl rfl ⟨Nat.le_of_ble_eq_true rfl, Nat.le_of_ble_eq_true rfl⟩ ⟨rfl, rfl⟩ (Nat.le_of_ble_eq_true rfl) ⟨Nat.le_of_ble_eq_true rfl, Nat.le_of_ble_eq_true rfl⟩ ?_
            exact g_vret X hr dX7_cares_51 hf
        · exact g_vret X hr dX7_cares_51 hf
      · refine g_aload_n X (i := 0) dX7_cares_24 rfl rfl ?_
        refine g_iload_n X (i := 2) dX7_cares_25 rfl rfl ?_
        obtain ⟨o12, h13, hf⟩ := hfb hf
        refine g_Vv X (q0 := 0) (As := [.int x2]) (rest := []) (c_X7_shades h13) dX7_cares_26 ml_X7_66 yv_X7_shades rfl rfl rfl rfl ⟨Nat.le_of_ble_eq_true rfl, Nat.le_of_ble_eq_true rfl⟩ ⟨rfl, rfl⟩ (Nat.le_of_ble_eq_true rfl) ⟨Nat.le_of_ble_eq_true rfl, Nat.le_of_ble_eq_true rfl⟩ ?_
        refine g_aload_n X (i := 0) dX7_cares_29 rfl rfl ?_
        refine g_get X (q0 := 0) (v := .ref (ad 1)) 0 dX7_cares_30 gC_X7 rfl rfl (by decide) fl_X7_7 rfl rfl ?_
        refine g_sipush X dX7_cares_33 (v := 234) (by decide) ?_
        obtain ⟨hb14, hf⟩ := hfg hf
        refine g_iald X (q0 := 1) (f := o12.2.2 0) dX7_cares_36 rfl hb14 ?_
        refine g_iconst X dX7_cares_37 (v := 2) (by decide) ?_
        refine g_icmp_ne X dX7_cares_38 (tgt := 51) (by decide) hf (fun c15 hf => ?_) (fun c15 hf => ?_)
        · refine g_iload_n X (i := 1) dX7_cares_41 rfl rfl ?_
          refine g_iload_n X (i := 2) dX7_cares_42 rfl rfl ?_
          refine g_icmp_eq X dX7_cares_43 (tgt := 51) (by decide) hf (fun c16 hf => ?_) (fun c16 hf => ?_)
          · exact g_vret X hr dX7_cares_51 hf
          · refine g_aload_n X (i := 0) dX7_cares_46 rfl rfl ?_
            refine g_iload_n X (i := 1) dX7_cares_47 rfl rfl ?_
            obtain ⟨o17, h18, hf⟩ := hfb hf
            refine g_Vv X (q0 := 0) (As := [.int x1]) (rest := []) (c_X7_shades h18) dX7_cares_48 ml_X7_66 yv_X7_shades rfl rfl rfl rfl ⟨Nat.le_of_ble_eq_true rfl, Nat.le_of_ble_eq_true rfl⟩ ⟨rfl, rfl⟩ (Nat.le_of_ble_eq_true rfl) ⟨Nat.le_of_ble_eq_true rfl, Nat.le_of_ble_eq_true rfl⟩ ?_
            exact g_vret X hr dX7_cares_51 hf
        · exact g_vret X hr dX7_cares_51 hf
    · refine g_aload_n X (i := 0) dX7_cares_29 rfl rfl ?_
      refine g_get X (q0 := 0) (v := .ref (ad 1)) 0 dX7_cares_30 gC_X7 rfl rfl (by decide) fl_X7_7 rfl rfl ?_
      refine g_sipush X dX7_cares_33 (v := 234) (by decide) ?_
      obtain ⟨hb19, hf⟩ := hfg hf
      refine g_iald X (q0 := 1) (f := o1.2.2 0) dX7_cares_36 rfl hb19 ?_
      refine g_iconst X dX7_cares_37 (v := 2) (by decide) ?_
      refine g_icmp_ne X dX7_cares_38 (tgt := 51) (by decide) hf (fun c20 hf => ?_) (fun c20 hf => ?_)
      · refine g_iload_n X (i := 1) dX7_cares_41 rfl rfl ?_
        refine g_iload_n X (i := 2) dX7_cares_42 rfl rfl ?_
        refine g_icmp_eq X dX7_cares_43 (tgt := 51) (by decide) hf (fun c21 hf => ?_) (fun c21 hf => ?_)
        · exact g_vret X hr dX7_cares_51 hf
        · refine g_aload_n X (i := 0) dX7_cares_46 rfl rfl ?_
          refine g_iload_n X (i := 1) dX7_cares_47 rfl rfl ?_
          obtain ⟨o22, h23, hf⟩ := hfb hf
          refine g_Vv X (q0 := 0) (As := [.int x1]) (rest := []) (c_X7_shades h23) dX7_cares_48 ml_X7_66 yv_X7_shades rfl rfl rfl rfl ⟨Nat.le_of_ble_eq_true rfl, Nat.le_of_ble_eq_true rfl⟩ ⟨rfl, rfl⟩ (Nat.le_of_ble_eq_true rfl) ⟨Nat.le_of_ble_eq_true rfl, Nat.le_of_ble_eq_true rfl⟩ ?_
          exact g_vret X hr dX7_cares_51 hf
      · exact g_vret X hr dX7_cares_51 hf
def f_X7_writesRoot (x1 x2 : Int32) (w : St) : Option (Int32 × St) := if ib (218 + x1) 235 then if ib (218 + x1) 235 then (f_X7_cares (w.2 0 (218 + x1).toNatClampNeg) x2 1 (sA w 0 (218 + x1) x2)).bind fun o3 => some (w.2 0 (218 + x1).toNatClampNeg, o3.2) else none else none
set_option maxRecDepth 100000 in
set_option maxHeartbeats 4000000 in
theorem c_X7_writesRoot {l : Launch} {D : va_G} {cI : ClassId × ClassId} {A : Nat → Prop} {ad : Nat → Nat} {x1 x2 : Int32} {w : St} {o : Int32 × St} (hf : f_X7_writesRoot x1 x2 w = some o) : CTi l D cI A yX7_writesRoot cX7_writesRoot 4 (some .int) rm_X7_writesRoot [.ref (ad 0), .int x1, .int x2] ((wM ad cI) w) o.1 ((wM ad cI) o.2)   := by
  refine CTi.of (by decide +kernel) rfl (Nat.le_of_ble_eq_true rfl) ?_
  intro p e s m args below meth c X hr
  have X : gX p s m args meth c cX7_writesRoot 4 RX7 D cI := X
  show G _ _ _ _ _ _ _ _ _ _ _ _ _ _ _ _ _ 0 [some (.ref (ad 0)), some (.int x1), some (.int x2), none] [] w
  unfold f_X7_writesRoot at hf
  refine g_aload_n X (i := 0) dX7_writesRoot_0 rfl rfl ?_
  refine g_get X (q0 := 0) (v := .ref (ad 1)) 0 dX7_writesRoot_1 gC_X7 rfl rfl (by decide) fl_X7_7 rfl rfl ?_
  refine g_sipush X dX7_writesRoot_4 (v := 218) (by decide) ?_
  refine g_iload_n X (i := 1) dX7_writesRoot_7 rfl rfl ?_
  refine g_iadd X dX7_writesRoot_8 ?_
  obtain ⟨hb1, hf⟩ := hfg hf
  refine g_iald X (q0 := 1) (f := w.2 0) dX7_writesRoot_9 rfl hb1 ?_
  refine g_istore_n X (i := 3) dX7_writesRoot_10 rfl (by decide) rfl ?_
  refine g_aload_n X (i := 0) dX7_writesRoot_11 rfl rfl ?_
  refine g_get X (q0 := 0) (v := .ref (ad 1)) 0 dX7_writesRoot_12 gC_X7 rfl rfl (by decide) fl_X7_7 rfl rfl ?_
  refine g_sipush X dX7_writesRoot_15 (v := 218) (by decide) ?_
  refine g_iload_n X (i := 1) dX7_writesRoot_18 rfl rfl ?_
  refine g_iadd X dX7_writesRoot_19 ?_
  refine g_iload_n X (i := 2) dX7_writesRoot_20 rfl rfl ?_
  obtain ⟨hb2, hf⟩ := hfg hf
  refine g_iast X (q0 := 1) (f := w.2 0) dX7_writesRoot_21 rfl hb2 (awM_0 ad cI _ _ _) ?_
  refine g_aload_n X (i := 0) dX7_writesRoot_22 rfl rfl ?_
  refine g_iload_n X (i := 3) dX7_writesRoot_23 rfl rfl ?_
  refine g_iload_n X (i := 2) dX7_writesRoot_24 rfl rfl ?_
  refine g_iconst X dX7_writesRoot_25 (v := 1) (by decide) ?_
  obtain ⟨o3, h4, hf⟩ := hfb hf
  refine g_Vv X (q0 := 0) (As := [.int (w.2 0 (218 + x1).toNatClampNeg), .int x2, .int 1]) (rest := []) (c_X7_cares h4) dX7_writesRoot_26 ml_X7_70 yv_X7_cares rfl rfl rfl rfl ⟨Nat.le_of_ble_eq_true rfl, Nat.le_of_ble_eq_true rfl⟩ ⟨rfl, rfl⟩ (Nat.le_of_ble_eq_true rfl) ⟨Nat.le_of_ble_eq_true rfl, Nat.le_of_ble_eq_true rfl⟩ ?_
  refine g_iload_n X (i := 3) dX7_writesRoot_29 rfl rfl ?_
  exact g_iret X hr dX7_writesRoot_30 hf
def f_X7_ask (x1 x2 : Int32) (w : St) : Option (Int32 × St) := (f_X7_isRoot x1 w).bind fun o1 => (if o1.1 = 0 then some ((-11), o1.2) else (f_X7_isRoot x2 o1.2).bind fun o4 => (if o4.1 = 0 then some ((-11), o4.2) else if ib (222 + x1) 235 then (if (o4.2.2 0 (222 + x1).toNatClampNeg) < 0 then some ((-14), o4.2) else (f_X7_changes o4.2).bind fun o9 => (f_X7_writesRoot x2 (o4.2.2 0 (222 + x1).toNatClampNeg) o9.2).bind fun o11 => (f_X7_isMarking o11.2).bind fun o13 => (if o13.1 = 0 then some (o4.2.2 0 (222 + x1).toNatClampNeg, o13.2) else (if o11.1 < 24 then (f_X7_shades (o4.2.2 0 (222 + x1).toNatClampNeg) o13.2).bind fun o17 => some (o4.2.2 0 (222 + x1).toNatClampNeg, o17.2) else some (o4.2.2 0 (222 + x1).toNatClampNeg, o13.2)))) else none))
set_option maxRecDepth 100000 in
set_option maxHeartbeats 4000000 in
theorem c_X7_ask {l : Launch} {D : va_G} {cI : ClassId × ClassId} {A : Nat → Prop} {ad : Nat → Nat} {x1 x2 : Int32} {w : St} {o : Int32 × St} (hf : f_X7_ask x1 x2 w = some o) : CTi l D cI A yX7_ask cX7_ask 5 (some .int) rm_X7_ask [.ref (ad 0), .int x1, .int x2] ((wM ad cI) w) o.1 ((wM ad cI) o.2)   := by
  refine CTi.of (by decide +kernel) rfl (Nat.le_of_ble_eq_true rfl) ?_
  intro p e s m args below meth c X hr
  have X : gX p s m args meth c cX7_ask 5 RX7 D cI := X
  show G _ _ _ _ _ _ _ _ _ _ _ _ _ _ _ _ _ 0 [some (.ref (ad 0)), some (.int x1), some (.int x2), none, none] [] w
  unfold f_X7_ask at hf
  refine g_iload_n X (i := 1) dX7_ask_0 rfl rfl ?_
  obtain ⟨o1, h2, hf⟩ := hfb hf
  refine g_Si X (As := [.int x1]) (rest := []) (c_X7_isRoot (wf := (wM ad cI)) h2) dX7_ask_1 ml_X7_74 yv_X7_isRoot rfl rfl ⟨Nat.le_of_ble_eq_true rfl, Nat.le_of_ble_eq_true rfl⟩ ⟨rfl, rfl⟩ (Nat.le_of_ble_eq_true rfl) ⟨Nat.le_of_ble_eq_true rfl, Nat.le_of_ble_eq_true rfl⟩ ?_
  refine g_if_eq X dX7_ask_4 (tgt := 14) (by decide) hf (fun c3 hf => ?_) (fun c3 hf => ?_)
  · refine g_bipush X dX7_ask_14 (v := (-11)) (by decide) ?_
    exact g_iret X hr dX7_ask_16 hf
  · refine g_iload_n X (i := 2) dX7_ask_7 rfl rfl ?_
    obtain ⟨o4, h5, hf⟩ := hfb hf
    refine g_Si X (As := [.int x2]) (rest := []) (c_X7_isRoot (wf := (wM ad cI)) h5) dX7_ask_8 ml_X7_74 yv_X7_isRoot rfl rfl ⟨Nat.le_of_ble_eq_true rfl, Nat.le_of_ble_eq_true rfl⟩ ⟨rfl, rfl⟩ (Nat.le_of_ble_eq_true rfl) ⟨Nat.le_of_ble_eq_true rfl, Nat.le_of_ble_eq_true rfl⟩ ?_
    refine g_if_ne X dX7_ask_11 (tgt := 17) (by decide) hf (fun c6 hf => ?_) (fun c6 hf => ?_)
    · refine g_bipush X dX7_ask_14 (v := (-11)) (by decide) ?_
      exact g_iret X hr dX7_ask_16 hf
    · refine g_aload_n X (i := 0) dX7_ask_17 rfl rfl ?_
      refine g_get X (q0 := 0) (v := .ref (ad 1)) 0 dX7_ask_18 gC_X7 rfl rfl (by decide) fl_X7_7 rfl rfl ?_
      refine g_sipush X dX7_ask_21 (v := 222) (by decide) ?_
      refine g_iload_n X (i := 1) dX7_ask_24 rfl rfl ?_
      refine g_iadd X dX7_ask_25 ?_
      obtain ⟨hb7, hf⟩ := hfg hf
      refine g_iald X (q0 := 1) (f := o4.2.2 0) dX7_ask_26 rfl hb7 ?_
      refine g_istore_n X (i := 3) dX7_ask_27 rfl (by decide) rfl ?_
      refine g_iload_n X (i := 3) dX7_ask_28 rfl rfl ?_
      refine g_if_ge X dX7_ask_29 (tgt := 35) (by decide) hf (fun c8 hf => ?_) (fun c8 hf => ?_)
      · refine g_bipush X dX7_ask_32 (v := (-14)) (by decide) ?_
        exact g_iret X hr dX7_ask_34 hf
      · refine g_aload_n X (i := 0) dX7_ask_35 rfl rfl ?_
        obtain ⟨o9, h10, hf⟩ := hfb hf
        refine g_Vv X (q0 := 0) (As := []) (rest := []) (c_X7_changes h10) dX7_ask_36 ml_X7_81 yv_X7_changes rfl rfl rfl rfl ⟨Nat.le_of_ble_eq_true rfl, Nat.le_of_ble_eq_true rfl⟩ ⟨rfl, rfl⟩ (Nat.le_of_ble_eq_true rfl) ⟨Nat.le_of_ble_eq_true rfl, Nat.le_of_ble_eq_true rfl⟩ ?_
        refine g_aload_n X (i := 0) dX7_ask_39 rfl rfl ?_
        refine g_iload_n X (i := 2) dX7_ask_40 rfl rfl ?_
        refine g_iload_n X (i := 3) dX7_ask_41 rfl rfl ?_
        obtain ⟨o11, h12, hf⟩ := hfb hf
        refine g_Vi X (q0 := 0) (As := [.int x2, .int (o4.2.2 0 (222 + x1).toNatClampNeg)]) (rest := []) (c_X7_writesRoot h12) dX7_ask_42 ml_X7_84 yv_X7_writesRoot rfl rfl rfl rfl ⟨Nat.le_of_ble_eq_true rfl, Nat.le_of_ble_eq_true rfl⟩ ⟨rfl, rfl⟩ (Nat.le_of_ble_eq_true rfl) ⟨Nat.le_of_ble_eq_true rfl, Nat.le_of_ble_eq_true rfl⟩ ?_
        refine g_istore X dX7_ask_45 (by decide) rfl ?_
        refine g_aload_n X (i := 0) dX7_ask_47 rfl rfl ?_
        obtain ⟨o13, h14, hf⟩ := hfb hf
        refine g_Vi X (q0 := 0) (As := []) (rest := []) (c_X7_isMarking h14) dX7_ask_48 ml_X7_62 yv_X7_isMarking rfl rfl rfl rfl ⟨Nat.le_of_ble_eq_true rfl, Nat.le_of_ble_eq_true rfl⟩ ⟨rfl, rfl⟩ (Nat.le_of_ble_eq_true rfl) ⟨Nat.le_of_ble_eq_true rfl, Nat.le_of_ble_eq_true rfl⟩ ?_
        refine g_if_eq X dX7_ask_51 (tgt := 66) (by decide) hf (fun c15 hf => ?_) (fun c15 hf => ?_)
        · refine g_iload_n X (i := 3) dX7_ask_66 rfl rfl ?_
          exact g_iret X hr dX7_ask_67 hf
        · refine g_iload X dX7_ask_54 rfl ?_
          refine g_bipush X dX7_ask_56 (v := 24) (by decide) ?_
          refine g_icmp_ge X dX7_ask_58 (tgt := 66) (by decide) hf (fun c16 hf => ?_) (fun c16 hf => ?_)
          · refine g_aload_n X (i := 0) dX7_ask_61 rfl rfl ?_
            refine g_iload_n X (i := 3) dX7_ask_62 rfl rfl ?_
            obtain ⟨o17, h18, hf⟩ := hfb hf
            refine g_Vv X (q0 := 0) (As := [.int (o4.2.2 0 (222 + x1).toNatClampNeg)]) (rest := []) (c_X7_shades h18) dX7_ask_63 ml_X7_66 yv_X7_shades rfl rfl rfl rfl ⟨Nat.le_of_ble_eq_true rfl, Nat.le_of_ble_eq_true rfl⟩ ⟨rfl, rfl⟩ (Nat.le_of_ble_eq_true rfl) ⟨Nat.le_of_ble_eq_true rfl, Nat.le_of_ble_eq_true rfl⟩ ?_
            refine g_iload_n X (i := 3) dX7_ask_66 rfl rfl ?_
            exact g_iret X hr dX7_ask_67 hf
          · refine g_iload_n X (i := 3) dX7_ask_66 rfl rfl ?_
            exact g_iret X hr dX7_ask_67 hf
def f_X7_begin (w : St) : Option (Int32 × St) := if ib 226 235 then (if (0 : Int32) < (w.2 0 (226 : Int32).toNatClampNeg) then some ((-12), w) else (f_X7_changes w).bind fun o3 => (f_X7_begins o3.2).bind fun o5 => if ib 168 235 then some (o5.2.2 0 (168 : Int32).toNatClampNeg, o5.2) else none) else none
set_option maxRecDepth 100000 in
set_option maxHeartbeats 4000000 in
theorem c_X7_begin {l : Launch} {D : va_G} {cI : ClassId × ClassId} {A : Nat → Prop} {ad : Nat → Nat} {w : St} {o : Int32 × St} (hf : f_X7_begin w = some o) : CTi l D cI A yX7_begin cX7_begin 1 (some .int) rm_X7_begin [.ref (ad 0)] ((wM ad cI) w) o.1 ((wM ad cI) o.2)   := by
  refine CTi.of (by decide +kernel) rfl (Nat.le_of_ble_eq_true rfl) ?_
  intro p e s m args below meth c X hr
  have X : gX p s m args meth c cX7_begin 1 RX7 D cI := X
  show G _ _ _ _ _ _ _ _ _ _ _ _ _ _ _ _ _ 0 [some (.ref (ad 0))] [] w
  unfold f_X7_begin at hf
  refine g_aload_n X (i := 0) dX7_begin_0 rfl rfl ?_
  refine g_get X (q0 := 0) (v := .ref (ad 1)) 0 dX7_begin_1 gC_X7 rfl rfl (by decide) fl_X7_7 rfl rfl ?_
  refine g_sipush X dX7_begin_4 (v := 226) (by decide) ?_
  obtain ⟨hb1, hf⟩ := hfg hf
  refine g_iald X (q0 := 1) (f := w.2 0) dX7_begin_7 rfl hb1 ?_
  refine g_if_le X dX7_begin_8 (tgt := 14) (by decide) hf (fun c2 hf => ?_) (fun c2 hf => ?_)
  · refine g_bipush X dX7_begin_11 (v := (-12)) (by decide) ?_
    exact g_iret X hr dX7_begin_13 hf
  · refine g_aload_n X (i := 0) dX7_begin_14 rfl rfl ?_
    obtain ⟨o3, h4, hf⟩ := hfb hf
    refine g_Vv X (q0 := 0) (As := []) (rest := []) (c_X7_changes h4) dX7_begin_15 ml_X7_81 yv_X7_changes rfl rfl rfl rfl ⟨Nat.le_of_ble_eq_true rfl, Nat.le_of_ble_eq_true rfl⟩ ⟨rfl, rfl⟩ (Nat.le_of_ble_eq_true rfl) ⟨Nat.le_of_ble_eq_true rfl, Nat.le_of_ble_eq_true rfl⟩ ?_
    refine g_aload_n X (i := 0) dX7_begin_18 rfl rfl ?_
    obtain ⟨o5, h6, hf⟩ := hfb hf
    refine g_Vv X (q0 := 0) (As := []) (rest := []) (c_X7_begins h6) dX7_begin_19 ml_X7_99 yv_X7_begins rfl rfl rfl rfl ⟨Nat.le_of_ble_eq_true rfl, Nat.le_of_ble_eq_true rfl⟩ ⟨rfl, rfl⟩ (Nat.le_of_ble_eq_true rfl) ⟨Nat.le_of_ble_eq_true rfl, Nat.le_of_ble_eq_true rfl⟩ ?_
    refine g_aload_n X (i := 0) dX7_begin_22 rfl rfl ?_
    refine g_get X (q0 := 0) (v := .ref (ad 1)) 0 dX7_begin_23 gC_X7 rfl rfl (by decide) fl_X7_7 rfl rfl ?_
    refine g_sipush X dX7_begin_26 (v := 168) (by decide) ?_
    obtain ⟨hb7, hf⟩ := hfg hf
    refine g_iald X (q0 := 1) (f := o5.2.2 0) dX7_begin_29 rfl hb7 ?_
    exact g_iret X hr dX7_begin_30 hf
def f_X7_spreads_L26 : Nat → Int32 → Int32 → Int32 → Int32 → Int32 → St → Option (Int32 × St)
  | 0, _, _, _, _, _, _ => none
  | n + 1, x2, x3, x5, x6, x7, w => (if x7 < 3 then (if ((x3 >>> (x6 &&& 31)) &&& 1) = 1 then (f_X7_of x6 (1 + x7) w).bind fun o5 => (if o5.1 < 0 then f_X7_spreads_L26 n x2 (x3 ||| 0) x5 x6 (x7 + 1) o5.2 else (if o5.1 = x2 then f_X7_spreads_L26 n x2 (x3 ||| 0) x5 x6 (x7 + 1) o5.2 else f_X7_spreads_L26 n x2 (x3 ||| (1 <<< (o5.1 &&& 31))) x5 x6 (x7 + 1) o5.2)) else some (x3, w)) else some (x3, w))
def f_X7_spreads_L16 : Nat → Int32 → Int32 → Int32 → Int32 → St → Option (Int32 × St)
  | 0, _, _, _, _, _ => none
  | n + 1, x2, x3, x5, x6, w => (if x6 < 24 then (f_X7_spreads_L26 BIG x2 x3 x5 x6 0 w).bind fun o9 => f_X7_spreads_L16 n x2 o9.1 x5 (x6 + 1) o9.2 else some (x3, w))
def f_X7_spreads_L5 : Nat → Int32 → Int32 → Int32 → St → Option (Int32 × St)
  | 0, _, _, _, _ => none
  | n + 1, x2, x3, x4, w => (if x4 = 0 then some (x3, w) else (f_X7_spreads_L16 BIG x2 x3 x3 0 w).bind fun o11 => (if o11.1 = x3 then f_X7_spreads_L5 n x2 o11.1 0 o11.2 else f_X7_spreads_L5 n x2 o11.1 1 o11.2))
def f_X7_spreads (x1 x2 : Int32) (w : St) : Option (Int32 × St) := (f_X7_spreads_L5 BIG x2 x1 1 w).bind fun o14 => some (o14.1, o14.2)
set_option maxRecDepth 100000 in
set_option maxHeartbeats 4000000 in
theorem gl_X7_spreads_L26 {p : Program} {l : Launch} {e : Env} {s : State} {m : MethodId} {args : Array Value} {below : List Frame} {meth : Method} {c : Code} {D : va_G} {A : Nat → Prop} {cI : ClassId × ClassId} {ad : Nat → Nat} {Q : State → Prop} {o : Int32 × St} (X : gX p s m args meth c cX7_spreads 9 RX7 D cI) (n : Nat) : ∀ {x2 x3 x5 x6 x7 : Int32} {w : St}, f_X7_spreads_L26 n x2 x3 x5 x6 x7 w = some o → G p l e rm_X7_spreads s m args below meth c D A 9 Q (wM ad cI) 0 0 82 [some (.ref (ad 0)), none, some (.int x2), some (.int o.1), none, some (.int x5), some (.int x6), none, none] [] o.2 → G p l e rm_X7_spreads s m args below meth c D A 9 Q (wM ad cI) 0 0 26 [some (.ref (ad 0)), none, some (.int x2), some (.int x3), none, some (.int x5), some (.int x6), some (.int x7), none] [] w := by
  induction n with
  | zero => intro x2 x3 x5 x6 x7 w hf; cases hf
  | succ n ih =>
    intro x2 x3 x5 x6 x7 w hf k
    rw [f_X7_spreads_L26] at hf
    refine g_iload X dX7_spreads_26 rfl ?_
    refine g_iconst X dX7_spreads_28 (v := 3) (by decide) ?_
    refine g_icmp_ge X dX7_spreads_29 (tgt := 82) (by decide) hf (fun c3 hf => ?_) (fun c3 hf => ?_)
    · refine g_iload_n X (i := 3) dX7_spreads_32 rfl rfl ?_
      refine g_iload X dX7_spreads_33 rfl ?_
      refine g_ishr X dX7_spreads_35 ?_
      refine g_iconst X dX7_spreads_36 (v := 1) (by decide) ?_
      refine g_iand X dX7_spreads_37 ?_
      refine g_iconst X dX7_spreads_38 (v := 1) (by decide) ?_
      refine g_icmp_ne X dX7_spreads_39 (tgt := 82) (by decide) hf (fun c4 hf => ?_) (fun c4 hf => ?_)
      · refine g_aload_n X (i := 0) dX7_spreads_42 rfl rfl ?_
        refine g_iload X dX7_spreads_43 rfl ?_
        refine g_iconst X dX7_spreads_45 (v := 1) (by decide) ?_
        refine g_iload X dX7_spreads_46 rfl ?_
        refine g_iadd X dX7_spreads_48 ?_
        obtain ⟨o5, h6, hf⟩ := hfb hf
        refine g_Vi X (q0 := 0) (As := [.int x6, .int (1 + x7)]) (rest := []) (c_X7_of h6) dX7_spreads_49 ml_X7_43 yv_X7_of rfl rfl rfl rfl ⟨Nat.le_of_ble_eq_true rfl, Nat.le_of_ble_eq_true rfl⟩ ⟨rfl, rfl⟩ (Nat.le_of_ble_eq_true rfl) ⟨Nat.le_of_ble_eq_true rfl, Nat.le_of_ble_eq_true rfl⟩ ?_
        refine g_istore X dX7_spreads_52 (by decide) rfl ?_
        refine g_iload_n X (i := 3) dX7_spreads_54 rfl rfl ?_
        refine g_iload X dX7_spreads_55 rfl ?_
        refine g_if_lt X dX7_spreads_57 (tgt := 73) (by decide) hf (fun c7 hf => ?_) (fun c7 hf => ?_)
        · refine g_iconst X dX7_spreads_73 (v := 0) (by decide) ?_
          refine g_ior X dX7_spreads_74 ?_
          refine g_istore_n X (i := 3) dX7_spreads_75 rfl (by decide) rfl ?_
          refine g_iinc X (i := 7) (v := 1) dX7_spreads_76 rfl (by decide) (by decide) rfl ?_
          refine g_goto X dX7_spreads_79 (tgt := 26) (by decide) ?_
          refine g_sub (losub (lo' := [some (.ref (ad 0)), none, some (.int x2), some (.int (x3 ||| 0)), none, some (.int x5), some (.int x6), some (.int (x7 + 1)), none]) ⟨rfl, rfl, rfl, rfl, rfl, rfl, trivial⟩) ?_
          exact ih hf k
        · refine g_iload X dX7_spreads_60 rfl ?_
          refine g_iload_n X (i := 2) dX7_spreads_62 rfl rfl ?_
          refine g_icmp_eq X dX7_spreads_63 (tgt := 73) (by decide) hf (fun c8 hf => ?_) (fun c8 hf => ?_)
          · refine g_iconst X dX7_spreads_73 (v := 0) (by decide) ?_
            refine g_ior X dX7_spreads_74 ?_
            refine g_istore_n X (i := 3) dX7_spreads_75 rfl (by decide) rfl ?_
            refine g_iinc X (i := 7) (v := 1) dX7_spreads_76 rfl (by decide) (by decide) rfl ?_
            refine g_goto X dX7_spreads_79 (tgt := 26) (by decide) ?_
            refine g_sub (losub (lo' := [some (.ref (ad 0)), none, some (.int x2), some (.int (x3 ||| 0)), none, some (.int x5), some (.int x6), some (.int (x7 + 1)), none]) ⟨rfl, rfl, rfl, rfl, rfl, rfl, trivial⟩) ?_
            exact ih hf k
          · refine g_iconst X dX7_spreads_66 (v := 1) (by decide) ?_
            refine g_iload X dX7_spreads_67 rfl ?_
            refine g_ishl X dX7_spreads_69 ?_
            refine g_goto X dX7_spreads_70 (tgt := 74) (by decide) ?_
            refine g_ior X dX7_spreads_74 ?_
            refine g_istore_n X (i := 3) dX7_spreads_75 rfl (by decide) rfl ?_
            refine g_iinc X (i := 7) (v := 1) dX7_spreads_76 rfl (by decide) (by decide) rfl ?_
            refine g_goto X dX7_spreads_79 (tgt := 26) (by decide) ?_
            refine g_sub (losub (lo' := [some (.ref (ad 0)), none, some (.int x2), some (.int (x3 ||| (1 <<< (o5.1 &&& 31)))), none, some (.int x5), some (.int x6), some (.int (x7 + 1)), none]) ⟨rfl, rfl, rfl, rfl, rfl, rfl, trivial⟩) ?_
            exact ih hf k
      · obtain rfl := Option.some.inj hf
        refine g_sub (losub (lo' := [some (.ref (ad 0)), none, some (.int x2), some (.int x3), none, some (.int x5), some (.int x6), none, none]) ⟨rfl, rfl, rfl, rfl, rfl, trivial⟩) ?_
        exact k
    · obtain rfl := Option.some.inj hf
      refine g_sub (losub (lo' := [some (.ref (ad 0)), none, some (.int x2), some (.int x3), none, some (.int x5), some (.int x6), none, none]) ⟨rfl, rfl, rfl, rfl, rfl, trivial⟩) ?_
      exact k
set_option maxRecDepth 100000 in
set_option maxHeartbeats 4000000 in
theorem gl_X7_spreads_L16 {p : Program} {l : Launch} {e : Env} {s : State} {m : MethodId} {args : Array Value} {below : List Frame} {meth : Method} {c : Code} {D : va_G} {A : Nat → Prop} {cI : ClassId × ClassId} {ad : Nat → Nat} {Q : State → Prop} {o : Int32 × St} (X : gX p s m args meth c cX7_spreads 9 RX7 D cI) (n : Nat) : ∀ {x2 x3 x5 x6 : Int32} {w : St}, f_X7_spreads_L16 n x2 x3 x5 x6 w = some o → G p l e rm_X7_spreads s m args below meth c D A 9 Q (wM ad cI) 0 0 88 [some (.ref (ad 0)), none, some (.int x2), some (.int o.1), none, some (.int x5), none, none, none] [] o.2 → G p l e rm_X7_spreads s m args below meth c D A 9 Q (wM ad cI) 0 0 16 [some (.ref (ad 0)), none, some (.int x2), some (.int x3), none, some (.int x5), some (.int x6), none, none] [] w := by
  induction n with
  | zero => intro x2 x3 x5 x6 w hf; cases hf
  | succ n ih =>
    intro x2 x3 x5 x6 w hf k
    rw [f_X7_spreads_L16] at hf
    refine g_iload X dX7_spreads_16 rfl ?_
    refine g_bipush X dX7_spreads_18 (v := 24) (by decide) ?_
    refine g_icmp_ge X dX7_spreads_20 (tgt := 88) (by decide) hf (fun c2 hf => ?_) (fun c2 hf => ?_)
    · refine g_iconst X dX7_spreads_23 (v := 0) (by decide) ?_
      refine g_istore X dX7_spreads_24 (by decide) rfl ?_
      obtain ⟨o9, h10, hf⟩ := hfb hf
      refine gl_X7_spreads_L26 X BIG h10 ?_
      refine g_iinc X (i := 6) (v := 1) dX7_spreads_82 rfl (by decide) (by decide) rfl ?_
      refine g_goto X dX7_spreads_85 (tgt := 16) (by decide) ?_
      exact ih hf k
    · obtain rfl := Option.some.inj hf
      refine g_sub (losub (lo' := [some (.ref (ad 0)), none, some (.int x2), some (.int x3), none, some (.int x5), none, none, none]) ⟨rfl, rfl, rfl, rfl, trivial⟩) ?_
      exact k
set_option maxRecDepth 100000 in
set_option maxHeartbeats 4000000 in
theorem gl_X7_spreads_L5 {p : Program} {l : Launch} {e : Env} {s : State} {m : MethodId} {args : Array Value} {below : List Frame} {meth : Method} {c : Code} {D : va_G} {A : Nat → Prop} {cI : ClassId × ClassId} {ad : Nat → Nat} {Q : State → Prop} {o : Int32 × St} (X : gX p s m args meth c cX7_spreads 9 RX7 D cI) (n : Nat) : ∀ {x2 x3 x4 : Int32} {w : St}, f_X7_spreads_L5 n x2 x3 x4 w = some o → G p l e rm_X7_spreads s m args below meth c D A 9 Q (wM ad cI) 0 0 104 [none, none, none, some (.int o.1), none, none, none, none, none] [] o.2 → G p l e rm_X7_spreads s m args below meth c D A 9 Q (wM ad cI) 0 0 5 [some (.ref (ad 0)), none, some (.int x2), some (.int x3), some (.int x4), none, none, none, none] [] w := by
  induction n with
  | zero => intro x2 x3 x4 w hf; cases hf
  | succ n ih =>
    intro x2 x3 x4 w hf k
    rw [f_X7_spreads_L5] at hf
    refine g_iload X dX7_spreads_5 rfl ?_
    refine g_if_eq X dX7_spreads_7 (tgt := 104) (by decide) hf (fun c1 hf => ?_) (fun c1 hf => ?_)
    · obtain rfl := Option.some.inj hf
      refine g_sub (losub (lo' := [none, none, none, some (.int x3), none, none, none, none, none]) ⟨rfl, trivial⟩) ?_
      exact k
    · refine g_iload_n X (i := 3) dX7_spreads_10 rfl rfl ?_
      refine g_istore X dX7_spreads_11 (by decide) rfl ?_
      refine g_iconst X dX7_spreads_13 (v := 0) (by decide) ?_
      refine g_istore X dX7_spreads_14 (by decide) rfl ?_
      refine g_sub (losub (lo' := [some (.ref (ad 0)), none, some (.int x2), some (.int x3), none, some (.int x3), some (.int 0), none, none]) ⟨rfl, rfl, rfl, rfl, rfl, trivial⟩) ?_
      obtain ⟨o11, h12, hf⟩ := hfb hf
      refine gl_X7_spreads_L16 X BIG h12 ?_
      refine g_iload_n X (i := 3) dX7_spreads_88 rfl rfl ?_
      refine g_iload X dX7_spreads_89 rfl ?_
      refine g_icmp_eq X dX7_spreads_91 (tgt := 98) (by decide) hf (fun c13 hf => ?_) (fun c13 hf => ?_)
      · refine g_iconst X dX7_spreads_98 (v := 0) (by decide) ?_
        refine g_istore X dX7_spreads_99 (by decide) rfl ?_
        refine g_goto X dX7_spreads_101 (tgt := 5) (by decide) ?_
        refine g_sub (losub (lo' := [some (.ref (ad 0)), none, some (.int x2), some (.int o11.1), some (.int 0), none, none, none, none]) ⟨rfl, rfl, rfl, rfl, trivial⟩) ?_
        exact ih hf k
      · refine g_iconst X dX7_spreads_94 (v := 1) (by decide) ?_
        refine g_goto X dX7_spreads_95 (tgt := 99) (by decide) ?_
        refine g_istore X dX7_spreads_99 (by decide) rfl ?_
        refine g_goto X dX7_spreads_101 (tgt := 5) (by decide) ?_
        refine g_sub (losub (lo' := [some (.ref (ad 0)), none, some (.int x2), some (.int o11.1), some (.int 1), none, none, none, none]) ⟨rfl, rfl, rfl, rfl, trivial⟩) ?_
        exact ih hf k
set_option maxRecDepth 100000 in
set_option maxHeartbeats 4000000 in
theorem c_X7_spreads {l : Launch} {D : va_G} {cI : ClassId × ClassId} {A : Nat → Prop} {ad : Nat → Nat} {x1 x2 : Int32} {w : St} {o : Int32 × St} (hf : f_X7_spreads x1 x2 w = some o) : CTi l D cI A yX7_spreads cX7_spreads 9 (some .int) rm_X7_spreads [.ref (ad 0), .int x1, .int x2] ((wM ad cI) w) o.1 ((wM ad cI) o.2)   := by
  refine CTi.of (by decide +kernel) rfl (Nat.le_of_ble_eq_true rfl) ?_
  intro p e s m args below meth c X hr
  have X : gX p s m args meth c cX7_spreads 9 RX7 D cI := X
  show G _ _ _ _ _ _ _ _ _ _ _ _ _ _ _ _ _ 0 [some (.ref (ad 0)), some (.int x1), some (.int x2), none, none, none, none, none, none] [] w
  unfold f_X7_spreads at hf
  refine g_iload_n X (i := 1) dX7_spreads_0 rfl rfl ?_
  refine g_istore_n X (i := 3) dX7_spreads_1 rfl (by decide) rfl ?_
  refine g_iconst X dX7_spreads_2 (v := 1) (by decide) ?_
  refine g_istore X dX7_spreads_3 (by decide) rfl ?_
  refine g_sub (losub (lo' := [some (.ref (ad 0)), none, some (.int x2), some (.int x1), some (.int 1), none, none, none, none]) ⟨rfl, rfl, rfl, rfl, trivial⟩) ?_
  obtain ⟨o14, h15, hf⟩ := hfb hf
  refine gl_X7_spreads_L5 X BIG h15 ?_
  refine g_iload_n X (i := 3) dX7_spreads_104 rfl rfl ?_
  exact g_iret X hr dX7_spreads_105 hf
def f_X7_rooted_L4 : Nat → Int32 → Int32 → Int32 → St → Option (Int32 × St)
  | 0, _, _, _, _ => none
  | n + 1, x1, x2, x3, w => (if x3 < 4 then if ib (218 + x3) 235 then (if (w.2 0 (218 + x3).toNatClampNeg) < 0 then f_X7_rooted_L4 n x1 (x2 ||| 0) (x3 + 1) w else (if (w.2 0 (218 + x3).toNatClampNeg) = x1 then f_X7_rooted_L4 n x1 (x2 ||| 0) (x3 + 1) w else f_X7_rooted_L4 n x1 (x2 ||| (1 <<< ((w.2 0 (218 + x3).toNatClampNeg) &&& 31))) (x3 + 1) w)) else none else some (x2, w))
def f_X7_rooted (x1 : Int32) (w : St) : Option (Int32 × St) := (f_X7_rooted_L4 BIG x1 0 0 w).bind fun o5 => (f_X7_spreads o5.1 x1 o5.2).bind fun o7 => some (o7.1, o7.2)
set_option maxRecDepth 100000 in
set_option maxHeartbeats 4000000 in
theorem gl_X7_rooted_L4 {p : Program} {l : Launch} {e : Env} {s : State} {m : MethodId} {args : Array Value} {below : List Frame} {meth : Method} {c : Code} {D : va_G} {A : Nat → Prop} {cI : ClassId × ClassId} {ad : Nat → Nat} {Q : State → Prop} {o : Int32 × St} (X : gX p s m args meth c cX7_rooted 5 RX7 D cI) (n : Nat) : ∀ {x1 x2 x3 : Int32} {w : St}, f_X7_rooted_L4 n x1 x2 x3 w = some o → G p l e rm_X7_rooted s m args below meth c D A 5 Q (wM ad cI) 0 0 49 [some (.ref (ad 0)), some (.int x1), some (.int o.1), none, none] [] o.2 → G p l e rm_X7_rooted s m args below meth c D A 5 Q (wM ad cI) 0 0 4 [some (.ref (ad 0)), some (.int x1), some (.int x2), some (.int x3), none] [] w := by
  induction n with
  | zero => intro x1 x2 x3 w hf; cases hf
  | succ n ih =>
    intro x1 x2 x3 w hf k
    rw [f_X7_rooted_L4] at hf
    refine g_iload_n X (i := 3) dX7_rooted_4 rfl rfl ?_
    refine g_iconst X dX7_rooted_5 (v := 4) (by decide) ?_
    refine g_icmp_ge X dX7_rooted_6 (tgt := 49) (by decide) hf (fun c1 hf => ?_) (fun c1 hf => ?_)
    · refine g_aload_n X (i := 0) dX7_rooted_9 rfl rfl ?_
      refine g_get X (q0 := 0) (v := .ref (ad 1)) 0 dX7_rooted_10 gC_X7 rfl rfl (by decide) fl_X7_7 rfl rfl ?_
      refine g_sipush X dX7_rooted_13 (v := 218) (by decide) ?_
      refine g_iload_n X (i := 3) dX7_rooted_16 rfl rfl ?_
      refine g_iadd X dX7_rooted_17 ?_
      obtain ⟨hb2, hf⟩ := hfg hf
      refine g_iald X (q0 := 1) (f := w.2 0) dX7_rooted_18 rfl hb2 ?_
      refine g_istore X dX7_rooted_19 (by decide) rfl ?_
      refine g_iload_n X (i := 2) dX7_rooted_21 rfl rfl ?_
      refine g_iload X dX7_rooted_22 rfl ?_
      refine g_if_lt X dX7_rooted_24 (tgt := 40) (by decide) hf (fun c3 hf => ?_) (fun c3 hf => ?_)
      · refine g_iconst X dX7_rooted_40 (v := 0) (by decide) ?_
        refine g_ior X dX7_rooted_41 ?_
        refine g_istore_n X (i := 2) dX7_rooted_42 rfl (by decide) rfl ?_
        refine g_iinc X (i := 3) (v := 1) dX7_rooted_43 rfl (by decide) (by decide) rfl ?_
        refine g_goto X dX7_rooted_46 (tgt := 4) (by decide) ?_
        refine g_sub (losub (lo' := [some (.ref (ad 0)), some (.int x1), some (.int (x2 ||| 0)), some (.int (x3 + 1)), none]) ⟨rfl, rfl, rfl, rfl, trivial⟩) ?_
        exact ih hf k
      · refine g_iload X dX7_rooted_27 rfl ?_
        refine g_iload_n X (i := 1) dX7_rooted_29 rfl rfl ?_
        refine g_icmp_eq X dX7_rooted_30 (tgt := 40) (by decide) hf (fun c4 hf => ?_) (fun c4 hf => ?_)
        · refine g_iconst X dX7_rooted_40 (v := 0) (by decide) ?_
          refine g_ior X dX7_rooted_41 ?_
          refine g_istore_n X (i := 2) dX7_rooted_42 rfl (by decide) rfl ?_
          refine g_iinc X (i := 3) (v := 1) dX7_rooted_43 rfl (by decide) (by decide) rfl ?_
          refine g_goto X dX7_rooted_46 (tgt := 4) (by decide) ?_
          refine g_sub (losub (lo' := [some (.ref (ad 0)), some (.int x1), some (.int (x2 ||| 0)), some (.int (x3 + 1)), none]) ⟨rfl, rfl, rfl, rfl, trivial⟩) ?_
          exact ih hf k
        · refine g_iconst X dX7_rooted_33 (v := 1) (by decide) ?_
          refine g_iload X dX7_rooted_34 rfl ?_
          refine g_ishl X dX7_rooted_36 ?_
          refine g_goto X dX7_rooted_37 (tgt := 41) (by decide) ?_
          refine g_ior X dX7_rooted_41 ?_
          refine g_istore_n X (i := 2) dX7_rooted_42 rfl (by decide) rfl ?_
          refine g_iinc X (i := 3) (v := 1) dX7_rooted_43 rfl (by decide) (by decide) rfl ?_
          refine g_goto X dX7_rooted_46 (tgt := 4) (by decide) ?_
          refine g_sub (losub (lo' := [some (.ref (ad 0)), some (.int x1), some (.int (x2 ||| (1 <<< ((w.2 0 (218 + x3).toNatClampNeg) &&& 31)))), some (.int (x3 + 1)), none]) ⟨rfl, rfl, rfl, rfl, trivial⟩) ?_
          exact ih hf k
    · obtain rfl := Option.some.inj hf
      refine g_sub (losub (lo' := [some (.ref (ad 0)), some (.int x1), some (.int x2), none, none]) ⟨rfl, rfl, rfl, trivial⟩) ?_
      exact k
set_option maxRecDepth 100000 in
set_option maxHeartbeats 4000000 in
theorem c_X7_rooted {l : Launch} {D : va_G} {cI : ClassId × ClassId} {A : Nat → Prop} {ad : Nat → Nat} {x1 : Int32} {w : St} {o : Int32 × St} (hf : f_X7_rooted x1 w = some o) : CTi l D cI A yX7_rooted cX7_rooted 5 (some .int) rm_X7_rooted [.ref (ad 0), .int x1] ((wM ad cI) w) o.1 ((wM ad cI) o.2)   := by
  refine CTi.of (by decide +kernel) rfl (Nat.le_of_ble_eq_true rfl) ?_
  intro p e s m args below meth c X hr
  have X : gX p s m args meth c cX7_rooted 5 RX7 D cI := X
  show G _ _ _ _ _ _ _ _ _ _ _ _ _ _ _ _ _ 0 [some (.ref (ad 0)), some (.int x1), none, none, none] [] w
  unfold f_X7_rooted at hf
  refine g_iconst X dX7_rooted_0 (v := 0) (by decide) ?_
  refine g_istore_n X (i := 2) dX7_rooted_1 rfl (by decide) rfl ?_
  refine g_iconst X dX7_rooted_2 (v := 0) (by decide) ?_
  refine g_istore_n X (i := 3) dX7_rooted_3 rfl (by decide) rfl ?_
  obtain ⟨o5, h6, hf⟩ := hfb hf
  refine gl_X7_rooted_L4 X BIG h6 ?_
  refine g_aload_n X (i := 0) dX7_rooted_49 rfl rfl ?_
  refine g_iload_n X (i := 2) dX7_rooted_50 rfl rfl ?_
  refine g_iload_n X (i := 1) dX7_rooted_51 rfl rfl ?_
  obtain ⟨o7, h8, hf⟩ := hfb hf
  refine g_Vi X (q0 := 0) (As := [.int o5.1, .int x1]) (rest := []) (c_X7_spreads h8) dX7_rooted_52 ml_X7_47 yv_X7_spreads rfl rfl rfl rfl ⟨Nat.le_of_ble_eq_true rfl, Nat.le_of_ble_eq_true rfl⟩ ⟨rfl, rfl⟩ (Nat.le_of_ble_eq_true rfl) ⟨Nat.le_of_ble_eq_true rfl, Nat.le_of_ble_eq_true rfl⟩ ?_
  exact g_iret X hr dX7_rooted_55 hf
def f_X7_reached_L8 : Nat → Int32 → Int32 → St → Option (Int32 × St)
  | 0, _, _, _ => none
  | n + 1, x1, x2, w => if ib 193 235 then (if x2 < (w.2 0 (193 : Int32).toNatClampNeg) then if ib (194 + x2) 235 then f_X7_reached_L8 n (x1 ||| (1 <<< ((w.2 0 (194 + x2).toNatClampNeg) &&& 31))) (x2 + 1) w else none else some (x1, w)) else none
def f_X7_reached (w : St) : Option (Int32 × St) := (f_X7_rooted (-1) w).bind fun o1 => (f_X7_reached_L8 BIG o1.1 0 o1.2).bind fun o6 => (f_X7_spreads o6.1 (-1) o6.2).bind fun o8 => some (o8.1, o8.2)
set_option maxRecDepth 100000 in
set_option maxHeartbeats 4000000 in
theorem gl_X7_reached_L8 {p : Program} {l : Launch} {e : Env} {s : State} {m : MethodId} {args : Array Value} {below : List Frame} {meth : Method} {c : Code} {D : va_G} {A : Nat → Prop} {cI : ClassId × ClassId} {ad : Nat → Nat} {Q : State → Prop} {o : Int32 × St} (X : gX p s m args meth c cX7_reached 3 RX7 D cI) (n : Nat) : ∀ {x1 x2 : Int32} {w : St}, f_X7_reached_L8 n x1 x2 w = some o → G p l e rm_X7_reached s m args below meth c D A 3 Q (wM ad cI) 0 0 41 [some (.ref (ad 0)), some (.int o.1), none] [] o.2 → G p l e rm_X7_reached s m args below meth c D A 3 Q (wM ad cI) 0 0 8 [some (.ref (ad 0)), some (.int x1), some (.int x2)] [] w := by
  induction n with
  | zero => intro x1 x2 w hf; cases hf
  | succ n ih =>
    intro x1 x2 w hf k
    rw [f_X7_reached_L8] at hf
    refine g_iload_n X (i := 2) dX7_reached_8 rfl rfl ?_
    refine g_aload_n X (i := 0) dX7_reached_9 rfl rfl ?_
    refine g_get X (q0 := 0) (v := .ref (ad 1)) 0 dX7_reached_10 gC_X7 rfl rfl (by decide) fl_X7_7 rfl rfl ?_
    refine g_sipush X dX7_reached_13 (v := 193) (by decide) ?_
    obtain ⟨hb3, hf⟩ := hfg hf
    refine g_iald X (q0 := 1) (f := w.2 0) dX7_reached_16 rfl hb3 ?_
    refine g_icmp_ge X dX7_reached_17 (tgt := 41) (by decide) hf (fun c4 hf => ?_) (fun c4 hf => ?_)
    · refine g_iload_n X (i := 1) dX7_reached_20 rfl rfl ?_
      refine g_iconst X dX7_reached_21 (v := 1) (by decide) ?_
      refine g_aload_n X (i := 0) dX7_reached_22 rfl rfl ?_
      refine g_get X (q0 := 0) (v := .ref (ad 1)) 0 dX7_reached_23 gC_X7 rfl rfl (by decide) fl_X7_7 rfl rfl ?_
      refine g_sipush X dX7_reached_26 (v := 194) (by decide) ?_
      refine g_iload_n X (i := 2) dX7_reached_29 rfl rfl ?_
      refine g_iadd X dX7_reached_30 ?_
      obtain ⟨hb5, hf⟩ := hfg hf
      refine g_iald X (q0 := 1) (f := w.2 0) dX7_reached_31 rfl hb5 ?_
      refine g_ishl X dX7_reached_32 ?_
      refine g_ior X dX7_reached_33 ?_
      refine g_istore_n X (i := 1) dX7_reached_34 rfl (by decide) rfl ?_
      refine g_iinc X (i := 2) (v := 1) dX7_reached_35 rfl (by decide) (by decide) rfl ?_
      refine g_goto X dX7_reached_38 (tgt := 8) (by decide) ?_
      exact ih hf k
    · obtain rfl := Option.some.inj hf
      refine g_sub (losub (lo' := [some (.ref (ad 0)), some (.int x1), none]) ⟨rfl, rfl, trivial⟩) ?_
      exact k
set_option maxRecDepth 100000 in
set_option maxHeartbeats 4000000 in
theorem c_X7_reached {l : Launch} {D : va_G} {cI : ClassId × ClassId} {A : Nat → Prop} {ad : Nat → Nat} {w : St} {o : Int32 × St} (hf : f_X7_reached w = some o) : CTi l D cI A yX7_reached cX7_reached 3 (some .int) rm_X7_reached [.ref (ad 0)] ((wM ad cI) w) o.1 ((wM ad cI) o.2)   := by
  refine CTi.of (by decide +kernel) rfl (Nat.le_of_ble_eq_true rfl) ?_
  intro p e s m args below meth c X hr
  have X : gX p s m args meth c cX7_reached 3 RX7 D cI := X
  show G _ _ _ _ _ _ _ _ _ _ _ _ _ _ _ _ _ 0 [some (.ref (ad 0)), none, none] [] w
  unfold f_X7_reached at hf
  refine g_aload_n X (i := 0) dX7_reached_0 rfl rfl ?_
  refine g_iconst X dX7_reached_1 (v := (-1)) (by decide) ?_
  obtain ⟨o1, h2, hf⟩ := hfb hf
  refine g_Vi X (q0 := 0) (As := [.int (-1)]) (rest := []) (c_X7_rooted h2) dX7_reached_2 ml_X7_50 yv_X7_rooted rfl rfl rfl rfl ⟨Nat.le_of_ble_eq_true rfl, Nat.le_of_ble_eq_true rfl⟩ ⟨rfl, rfl⟩ (Nat.le_of_ble_eq_true rfl) ⟨Nat.le_of_ble_eq_true rfl, Nat.le_of_ble_eq_true rfl⟩ ?_
  refine g_istore_n X (i := 1) dX7_reached_5 rfl (by decide) rfl ?_
  refine g_iconst X dX7_reached_6 (v := 0) (by decide) ?_
  refine g_istore_n X (i := 2) dX7_reached_7 rfl (by decide) rfl ?_
  obtain ⟨o6, h7, hf⟩ := hfb hf
  refine gl_X7_reached_L8 X BIG h7 ?_
  refine g_aload_n X (i := 0) dX7_reached_41 rfl rfl ?_
  refine g_iload_n X (i := 1) dX7_reached_42 rfl rfl ?_
  refine g_iconst X dX7_reached_43 (v := (-1)) (by decide) ?_
  obtain ⟨o8, h9, hf⟩ := hfb hf
  refine g_Vi X (q0 := 0) (As := [.int o6.1, .int (-1)]) (rest := []) (c_X7_spreads h9) dX7_reached_44 ml_X7_47 yv_X7_spreads rfl rfl rfl rfl ⟨Nat.le_of_ble_eq_true rfl, Nat.le_of_ble_eq_true rfl⟩ ⟨rfl, rfl⟩ (Nat.le_of_ble_eq_true rfl) ⟨Nat.le_of_ble_eq_true rfl, Nat.le_of_ble_eq_true rfl⟩ ?_
  exact g_iret X hr dX7_reached_47 hf
def f_X7_isReached (x1 : Int32) (w : St) : Option (Int32 × St) := (f_X7_reached w).bind fun o1 => (if ((o1.1 >>> (x1 &&& 31)) &&& 1) = 1 then some (1, o1.2) else some (0, o1.2))
set_option maxRecDepth 100000 in
set_option maxHeartbeats 4000000 in
theorem c_X7_isReached {l : Launch} {D : va_G} {cI : ClassId × ClassId} {A : Nat → Prop} {ad : Nat → Nat} {x1 : Int32} {w : St} {o : Int32 × St} (hf : f_X7_isReached x1 w = some o) : CTi l D cI A yX7_isReached cX7_isReached 2 (some .boolean) rm_X7_isReached [.ref (ad 0), .int x1] ((wM ad cI) w) o.1 ((wM ad cI) o.2)   := by
  refine CTi.of (by decide +kernel) rfl (Nat.le_of_ble_eq_true rfl) ?_
  intro p e s m args below meth c X hr
  have X : gX p s m args meth c cX7_isReached 2 RX7 D cI := X
  show G _ _ _ _ _ _ _ _ _ _ _ _ _ _ _ _ _ 0 [some (.ref (ad 0)), some (.int x1)] [] w
  unfold f_X7_isReached at hf
  refine g_aload_n X (i := 0) dX7_isReached_0 rfl rfl ?_
  obtain ⟨o1, h2, hf⟩ := hfb hf
  refine g_Vi X (q0 := 0) (As := []) (rest := []) (c_X7_reached h2) dX7_isReached_1 ml_X7_54 yv_X7_reached rfl rfl rfl rfl ⟨Nat.le_of_ble_eq_true rfl, Nat.le_of_ble_eq_true rfl⟩ ⟨rfl, rfl⟩ (Nat.le_of_ble_eq_true rfl) ⟨Nat.le_of_ble_eq_true rfl, Nat.le_of_ble_eq_true rfl⟩ ?_
  refine g_iload_n X (i := 1) dX7_isReached_4 rfl rfl ?_
  refine g_ishr X dX7_isReached_5 ?_
  refine g_iconst X dX7_isReached_6 (v := 1) (by decide) ?_
  refine g_iand X dX7_isReached_7 ?_
  refine g_iconst X dX7_isReached_8 (v := 1) (by decide) ?_
  refine g_icmp_ne X dX7_isReached_9 (tgt := 16) (by decide) hf (fun c3 hf => ?_) (fun c3 hf => ?_)
  · refine g_iconst X dX7_isReached_12 (v := 1) (by decide) ?_
    refine g_goto X dX7_isReached_13 (tgt := 17) (by decide) ?_
    exact g_zret X hr dX7_isReached_17 rfl hf
  · refine g_iconst X dX7_isReached_16 (v := 0) (by decide) ?_
    exact g_zret X hr dX7_isReached_17 rfl hf
def f_X7_field (x1 x2 x3 : Int32) (w : St) : Option (Int32 × St) := (f_X7_isObject x1 w).bind fun o1 => (if o1.1 = 0 then some ((-11), o1.2) else (f_X7_in x2 0 2 o1.2).bind fun o4 => (if o4.1 = 0 then some ((-11), o4.2) else (if x3 = (-1) then (f_X7_isReached x1 o4.2).bind fun o8 => (if o8.1 = 0 then some ((-12), o8.2) else (if x3 < 0 then (f_X7_changes o8.2).bind fun o12 => (f_X7_of x1 (1 + x2) o12.2).bind fun o14 => (f_X7_sets x1 (1 + x2) x3 o14.2).bind fun o16 => (f_X7_of x1 5 o16.2).bind fun o18 => (if o18.1 = 2 then (f_X7_cares o14.1 x3 1 o18.2).bind fun o21 => some (o14.1, o21.2) else (f_X7_cares o14.1 x3 0 o18.2).bind fun o23 => some (o14.1, o23.2)) else (f_X7_isReached x3 o8.2).bind fun o25 => (if o25.1 = 0 then some ((-12), o25.2) else (f_X7_changes o25.2).bind fun o28 => (f_X7_of x1 (1 + x2) o28.2).bind fun o30 => (f_X7_sets x1 (1 + x2) x3 o30.2).bind fun o32 => (f_X7_of x1 5 o32.2).bind fun o34 => (if o34.1 = 2 then (f_X7_cares o30.1 x3 1 o34.2).bind fun o37 => some (o30.1, o37.2) else (f_X7_cares o30.1 x3 0 o34.2).bind fun o39 => some (o30.1, o39.2))))) else (f_X7_isObject x3 o4.2).bind fun o41 => (if o41.1 = 0 then some ((-11), o41.2) else (f_X7_isReached x1 o41.2).bind fun o44 => (if o44.1 = 0 then some ((-12), o44.2) else (if x3 < 0 then (f_X7_changes o44.2).bind fun o48 => (f_X7_of x1 (1 + x2) o48.2).bind fun o50 => (f_X7_sets x1 (1 + x2) x3 o50.2).bind fun o52 => (f_X7_of x1 5 o52.2).bind fun o54 => (if o54.1 = 2 then (f_X7_cares o50.1 x3 1 o54.2).bind fun o57 => some (o50.1, o57.2) else (f_X7_cares o50.1 x3 0 o54.2).bind fun o59 => some (o50.1, o59.2)) else (f_X7_isReached x3 o44.2).bind fun o61 => (if o61.1 = 0 then some ((-12), o61.2) else (f_X7_changes o61.2).bind fun o64 => (f_X7_of x1 (1 + x2) o64.2).bind fun o66 => (f_X7_sets x1 (1 + x2) x3 o66.2).bind fun o68 => (f_X7_of x1 5 o68.2).bind fun o70 => (if o70.1 = 2 then (f_X7_cares o66.1 x3 1 o70.2).bind fun o73 => some (o66.1, o73.2) else (f_X7_cares o66.1 x3 0 o70.2).bind fun o75 => some (o66.1, o75.2)))))))))
set_option maxRecDepth 100000 in
set_option maxHeartbeats 4000000 in
theorem c_X7_field {l : Launch} {D : va_G} {cI : ClassId × ClassId} {A : Nat → Prop} {ad : Nat → Nat} {x1 x2 x3 : Int32} {w : St} {o : Int32 × St} (hf : f_X7_field x1 x2 x3 w = some o) : CTi l D cI A yX7_field cX7_field 5 (some .int) rm_X7_field [.ref (ad 0), .int x1, .int x2, .int x3] ((wM ad cI) w) o.1 ((wM ad cI) o.2)   := by
  refine CTi.of (by decide +kernel) rfl (Nat.le_of_ble_eq_true rfl) ?_
  intro p e s m args below meth c X hr
  have X : gX p s m args meth c cX7_field 5 RX7 D cI := X
  show G _ _ _ _ _ _ _ _ _ _ _ _ _ _ _ _ _ 0 [some (.ref (ad 0)), some (.int x1), some (.int x2), some (.int x3), none] [] w
  unfold f_X7_field at hf
  refine g_aload_n X (i := 0) dX7_field_0 rfl rfl ?_
  refine g_iload_n X (i := 1) dX7_field_1 rfl rfl ?_
  obtain ⟨o1, h2, hf⟩ := hfb hf
  refine g_Vi X (q0 := 0) (As := [.int x1]) (rest := []) (c_X7_isObject h2) dX7_field_2 ml_X7_87 yv_X7_isObject rfl rfl rfl rfl ⟨Nat.le_of_ble_eq_true rfl, Nat.le_of_ble_eq_true rfl⟩ ⟨rfl, rfl⟩ (Nat.le_of_ble_eq_true rfl) ⟨Nat.le_of_ble_eq_true rfl, Nat.le_of_ble_eq_true rfl⟩ ?_
  refine g_if_eq X dX7_field_5 (tgt := 30) (by decide) hf (fun c3 hf => ?_) (fun c3 hf => ?_)
  · refine g_bipush X dX7_field_30 (v := (-11)) (by decide) ?_
    exact g_iret X hr dX7_field_32 hf
  · refine g_iload_n X (i := 2) dX7_field_8 rfl rfl ?_
    refine g_iconst X dX7_field_9 (v := 0) (by decide) ?_
    refine g_iconst X dX7_field_10 (v := 2) (by decide) ?_
    obtain ⟨o4, h5, hf⟩ := hfb hf
    refine g_Si X (As := [.int x2, .int 0, .int 2]) (rest := []) (c_X7_in (wf := (wM ad cI)) h5) dX7_field_11 ml_X7_39 yv_X7_in rfl rfl ⟨Nat.le_of_ble_eq_true rfl, Nat.le_of_ble_eq_true rfl⟩ ⟨rfl, rfl⟩ (Nat.le_of_ble_eq_true rfl) ⟨Nat.le_of_ble_eq_true rfl, Nat.le_of_ble_eq_true rfl⟩ ?_
    refine g_if_eq X dX7_field_14 (tgt := 30) (by decide) hf (fun c6 hf => ?_) (fun c6 hf => ?_)
    · refine g_bipush X dX7_field_30 (v := (-11)) (by decide) ?_
      exact g_iret X hr dX7_field_32 hf
    · refine g_iload_n X (i := 3) dX7_field_17 rfl rfl ?_
      refine g_iconst X dX7_field_18 (v := (-1)) (by decide) ?_
      refine g_icmp_eq X dX7_field_19 (tgt := 33) (by decide) hf (fun c7 hf => ?_) (fun c7 hf => ?_)
      · refine g_aload_n X (i := 0) dX7_field_33 rfl rfl ?_
        refine g_iload_n X (i := 1) dX7_field_34 rfl rfl ?_
        obtain ⟨o8, h9, hf⟩ := hfb hf
        refine g_Vi X (q0 := 0) (As := [.int x1]) (rest := []) (c_X7_isReached h9) dX7_field_35 ml_X7_90 yv_X7_isReached rfl rfl rfl rfl ⟨Nat.le_of_ble_eq_true rfl, Nat.le_of_ble_eq_true rfl⟩ ⟨rfl, rfl⟩ (Nat.le_of_ble_eq_true rfl) ⟨Nat.le_of_ble_eq_true rfl, Nat.le_of_ble_eq_true rfl⟩ ?_
        refine g_if_eq X dX7_field_38 (tgt := 53) (by decide) hf (fun c10 hf => ?_) (fun c10 hf => ?_)
        · refine g_bipush X dX7_field_53 (v := (-12)) (by decide) ?_
          exact g_iret X hr dX7_field_55 hf
        · refine g_iload_n X (i := 3) dX7_field_41 rfl rfl ?_
          refine g_if_lt X dX7_field_42 (tgt := 56) (by decide) hf (fun c11 hf => ?_) (fun c11 hf => ?_)
          · refine g_aload_n X (i := 0) dX7_field_56 rfl rfl ?_
            obtain ⟨o12, h13, hf⟩ := hfb hf
            refine g_Vv X (q0 := 0) (As := []) (rest := []) (c_X7_changes h13) dX7_field_57 ml_X7_81 yv_X7_changes rfl rfl rfl rfl ⟨Nat.le_of_ble_eq_true rfl, Nat.le_of_ble_eq_true rfl⟩ ⟨rfl, rfl⟩ (Nat.le_of_ble_eq_true rfl) ⟨Nat.le_of_ble_eq_true rfl, Nat.le_of_ble_eq_true rfl⟩ ?_
            refine g_aload_n X (i := 0) dX7_field_60 rfl rfl ?_
            refine g_iload_n X (i := 1) dX7_field_61 rfl rfl ?_
            refine g_iconst X dX7_field_62 (v := 1) (by decide) ?_
            refine g_iload_n X (i := 2) dX7_field_63 rfl rfl ?_
            refine g_iadd X dX7_field_64 ?_
            obtain ⟨o14, h15, hf⟩ := hfb hf
            refine g_Vi X (q0 := 0) (As := [.int x1, .int (1 + x2)]) (rest := []) (c_X7_of h15) dX7_field_65 ml_X7_43 yv_X7_of rfl rfl rfl rfl ⟨Nat.le_of_ble_eq_true rfl, Nat.le_of_ble_eq_true rfl⟩ ⟨rfl, rfl⟩ (Nat.le_of_ble_eq_true rfl) ⟨Nat.le_of_ble_eq_true rfl, Nat.le_of_ble_eq_true rfl⟩ ?_
            refine g_istore X dX7_field_68 (by decide) rfl ?_
            refine g_aload_n X (i := 0) dX7_field_70 rfl rfl ?_
            refine g_iload_n X (i := 1) dX7_field_71 rfl rfl ?_
            refine g_iconst X dX7_field_72 (v := 1) (by decide) ?_
            refine g_iload_n X (i := 2) dX7_field_73 rfl rfl ?_
            refine g_iadd X dX7_field_74 ?_
            refine g_iload_n X (i := 3) dX7_field_75 rfl rfl ?_
            obtain ⟨o16, h17, hf⟩ := hfb hf
            refine g_Vv X (q0 := 0) (As := [.int x1, .int (1 + x2), .int x3]) (rest := []) (c_X7_sets h17) dX7_field_76 ml_X7_58 yv_X7_sets rfl rfl rfl rfl ⟨Nat.le_of_ble_eq_true rfl, Nat.le_of_ble_eq_true rfl⟩ ⟨rfl, rfl⟩ (Nat.le_of_ble_eq_true rfl) ⟨Nat.le_of_ble_eq_true rfl, Nat.le_of_ble_eq_true rfl⟩ ?_
            refine g_aload_n X (i := 0) dX7_field_79 rfl rfl ?_
            refine g_iload X dX7_field_80 rfl ?_
            refine g_iload_n X (i := 3) dX7_field_82 rfl rfl ?_
            refine g_aload_n X (i := 0) dX7_field_83 rfl rfl ?_
            refine g_iload_n X (i := 1) dX7_field_84 rfl rfl ?_
            refine g_iconst X dX7_field_85 (v := 5) (by decide) ?_
            obtain ⟨o18, h19, hf⟩ := hfb hf
            refine g_Vi X (q0 := 0) (As := [.int x1, .int 5]) (rest := [.int x3, .int o14.1, .ref (ad 0)]) (c_X7_of h19) dX7_field_86 ml_X7_43 yv_X7_of rfl rfl rfl rfl ⟨Nat.le_of_ble_eq_true rfl, Nat.le_of_ble_eq_true rfl⟩ ⟨rfl, rfl⟩ (Nat.le_of_ble_eq_true rfl) ⟨Nat.le_of_ble_eq_true rfl, Nat.le_of_ble_eq_true rfl⟩ ?_
            refine g_iconst X dX7_field_89 (v := 2) (by decide) ?_
            refine g_icmp_ne X dX7_field_90 (tgt := 97) (by decide) hf (fun c20 hf => ?_) (fun c20 hf => ?_)
            · refine g_iconst X dX7_field_93 (v := 1) (by decide) ?_
              refine g_goto X dX7_field_94 (tgt := 98) (by decide) ?_
              obtain ⟨o21, h22, hf⟩ := hfb hf
              refine g_Vv X (q0 := 0) (As := [.int o14.1, .int x3, .int 1]) (rest := []) (c_X7_cares h22) dX7_field_98 ml_X7_70 yv_X7_cares rfl rfl rfl rfl ⟨Nat.le_of_ble_eq_true rfl, Nat.le_of_ble_eq_true rfl⟩ ⟨rfl, rfl⟩ (Nat.le_of_ble_eq_true rfl) ⟨Nat.le_of_ble_eq_true rfl, Nat.le_of_ble_eq_true rfl⟩ ?_
              refine g_iload X dX7_field_101 rfl ?_
              exact g_iret X hr dX7_field_103 hf
            · refine g_iconst X dX7_field_97 (v := 0) (by decide) ?_
              obtain ⟨o23, h24, hf⟩ := hfb hf
              refine g_Vv X (q0 := 0) (As := [.int o14.1, .int x3, .int 0]) (rest := []) (c_X7_cares h24) dX7_field_98 ml_X7_70 yv_X7_cares rfl rfl rfl rfl ⟨Nat.le_of_ble_eq_true rfl, Nat.le_of_ble_eq_true rfl⟩ ⟨rfl, rfl⟩ (Nat.le_of_ble_eq_true rfl) ⟨Nat.le_of_ble_eq_true rfl, Nat.le_of_ble_eq_true rfl⟩ ?_
              refine g_iload X dX7_field_101 rfl ?_
              exact g_iret X hr dX7_field_103 hf
          · refine g_aload_n X (i := 0) dX7_field_45 rfl rfl ?_
            refine g_iload_n X (i := 3) dX7_field_46 rfl rfl ?_
            obtain ⟨o25, h26, hf⟩ := hfb hf
            refine g_Vi X (q0 := 0) (As := [.int x3]) (rest := []) (c_X7_isReached h26) dX7_field_47 ml_X7_90 yv_X7_isReached rfl rfl rfl rfl ⟨Nat.le_of_ble_eq_true rfl, Nat.le_of_ble_eq_true rfl⟩ ⟨rfl, rfl⟩ (Nat.le_of_ble_eq_true rfl) ⟨Nat.le_of_ble_eq_true rfl, Nat.le_of_ble_eq_true rfl⟩ ?_
            refine g_if_ne X dX7_field_50 (tgt := 56) (by decide) hf (fun c27 hf => ?_) (fun c27 hf => ?_)
            · refine g_bipush X dX7_field_53 (v := (-12)) (by decide) ?_
              exact g_iret X hr dX7_field_55 hf
            · refine g_aload_n X (i := 0) dX7_field_56 rfl rfl ?_
              obtain ⟨o28, h29, hf⟩ := hfb hf
              refine g_Vv X (q0 := 0) (As := []) (rest := []) (c_X7_changes h29) dX7_field_57 ml_X7_81 yv_X7_changes rfl rfl rfl rfl ⟨Nat.le_of_ble_eq_true rfl, Nat.le_of_ble_eq_true rfl⟩ ⟨rfl, rfl⟩ (Nat.le_of_ble_eq_true rfl) ⟨Nat.le_of_ble_eq_true rfl, Nat.le_of_ble_eq_true rfl⟩ ?_
              refine g_aload_n X (i := 0) dX7_field_60 rfl rfl ?_
              refine g_iload_n X (i := 1) dX7_field_61 rfl rfl ?_
              refine g_iconst X dX7_field_62 (v := 1) (by decide) ?_
              refine g_iload_n X (i := 2) dX7_field_63 rfl rfl ?_
              refine g_iadd X dX7_field_64 ?_
              obtain ⟨o30, h31, hf⟩ := hfb hf
              refine g_Vi X (q0 := 0) (As := [.int x1, .int (1 + x2)]) (rest := []) (c_X7_of h31) dX7_field_65 ml_X7_43 yv_X7_of rfl rfl rfl rfl ⟨Nat.le_of_ble_eq_true rfl, Nat.le_of_ble_eq_true rfl⟩ ⟨rfl, rfl⟩ (Nat.le_of_ble_eq_true rfl) ⟨Nat.le_of_ble_eq_true rfl, Nat.le_of_ble_eq_true rfl⟩ ?_
              refine g_istore X dX7_field_68 (by decide) rfl ?_
              refine g_aload_n X (i := 0) dX7_field_70 rfl rfl ?_
              refine g_iload_n X (i := 1) dX7_field_71 rfl rfl ?_
              refine g_iconst X dX7_field_72 (v := 1) (by decide) ?_
              refine g_iload_n X (i := 2) dX7_field_73 rfl rfl ?_
              refine g_iadd X dX7_field_74 ?_
              refine g_iload_n X (i := 3) dX7_field_75 rfl rfl ?_
              obtain ⟨o32, h33, hf⟩ := hfb hf
              refine g_Vv X (q0 := 0) (As := [.int x1, .int (1 + x2), .int x3]) (rest := []) (c_X7_sets h33) dX7_field_76 ml_X7_58 yv_X7_sets rfl rfl rfl rfl ⟨Nat.le_of_ble_eq_true rfl, Nat.le_of_ble_eq_true rfl⟩ ⟨rfl, rfl⟩ (Nat.le_of_ble_eq_true rfl) ⟨Nat.le_of_ble_eq_true rfl, Nat.le_of_ble_eq_true rfl⟩ ?_
              refine g_aload_n X (i := 0) dX7_field_79 rfl rfl ?_
              refine g_iload X dX7_field_80 rfl ?_
              refine g_iload_n X (i := 3) dX7_field_82 rfl rfl ?_
              refine g_aload_n X (i := 0) dX7_field_83 rfl rfl ?_
              refine g_iload_n X (i := 1) dX7_field_84 rfl rfl ?_
              refine g_iconst X dX7_field_85 (v := 5) (by decide) ?_
              obtain ⟨o34, h35, hf⟩ := hfb hf
              refine g_Vi X (q0 := 0) (As := [.int x1, .int 5]) (rest := [.int x3, .int o30.1, .ref (ad 0)]) (c_X7_of h35) dX7_field_86 ml_X7_43 yv_X7_of rfl rfl rfl rfl ⟨Nat.le_of_ble_eq_true rfl, Nat.le_of_ble_eq_true rfl⟩ ⟨rfl, rfl⟩ (Nat.le_of_ble_eq_true rfl) ⟨Nat.le_of_ble_eq_true rfl, Nat.le_of_ble_eq_true rfl⟩ ?_
              refine g_iconst X dX7_field_89 (v := 2) (by decide) ?_
              refine g_icmp_ne X dX7_field_90 (tgt := 97) (by decide) hf (fun c36 hf => ?_) (fun c36 hf => ?_)
              · refine g_iconst X dX7_field_93 (v := 1) (by decide) ?_
                refine g_goto X dX7_field_94 (tgt := 98) (by decide) ?_
                obtain ⟨o37, h38, hf⟩ := hfb hf
                refine g_Vv X (q0 := 0) (As := [.int o30.1, .int x3, .int 1]) (rest := []) (c_X7_cares h38) dX7_field_98 ml_X7_70 yv_X7_cares rfl rfl rfl rfl ⟨Nat.le_of_ble_eq_true rfl, Nat.le_of_ble_eq_true rfl⟩ ⟨rfl, rfl⟩ (Nat.le_of_ble_eq_true rfl) ⟨Nat.le_of_ble_eq_true rfl, Nat.le_of_ble_eq_true rfl⟩ ?_
                refine g_iload X dX7_field_101 rfl ?_
                exact g_iret X hr dX7_field_103 hf
              · refine g_iconst X dX7_field_97 (v := 0) (by decide) ?_
                obtain ⟨o39, h40, hf⟩ := hfb hf
                refine g_Vv X (q0 := 0) (As := [.int o30.1, .int x3, .int 0]) (rest := []) (c_X7_cares h40) dX7_field_98 ml_X7_70 yv_X7_cares rfl rfl rfl rfl ⟨Nat.le_of_ble_eq_true rfl, Nat.le_of_ble_eq_true rfl⟩ ⟨rfl, rfl⟩ (Nat.le_of_ble_eq_true rfl) ⟨Nat.le_of_ble_eq_true rfl, Nat.le_of_ble_eq_true rfl⟩ ?_
                refine g_iload X dX7_field_101 rfl ?_
                exact g_iret X hr dX7_field_103 hf
      · refine g_aload_n X (i := 0) dX7_field_22 rfl rfl ?_
        refine g_iload_n X (i := 3) dX7_field_23 rfl rfl ?_
        obtain ⟨o41, h42, hf⟩ := hfb hf
        refine g_Vi X (q0 := 0) (As := [.int x3]) (rest := []) (c_X7_isObject h42) dX7_field_24 ml_X7_87 yv_X7_isObject rfl rfl rfl rfl ⟨Nat.le_of_ble_eq_true rfl, Nat.le_of_ble_eq_true rfl⟩ ⟨rfl, rfl⟩ (Nat.le_of_ble_eq_true rfl) ⟨Nat.le_of_ble_eq_true rfl, Nat.le_of_ble_eq_true rfl⟩ ?_
        refine g_if_ne X dX7_field_27 (tgt := 33) (by decide) hf (fun c43 hf => ?_) (fun c43 hf => ?_)
        · refine g_bipush X dX7_field_30 (v := (-11)) (by decide) ?_
          exact g_iret X hr dX7_field_32 hf
        · refine g_aload_n X (i := 0) dX7_field_33 rfl rfl ?_
          refine g_iload_n X (i := 1) dX7_field_34 rfl rfl ?_
          obtain ⟨o44, h45, hf⟩ := hfb hf
          refine g_Vi X (q0 := 0) (As := [.int x1]) (rest := []) (c_X7_isReached h45) dX7_field_35 ml_X7_90 yv_X7_isReached rfl rfl rfl rfl ⟨Nat.le_of_ble_eq_true rfl, Nat.le_of_ble_eq_true rfl⟩ ⟨rfl, rfl⟩ (Nat.le_of_ble_eq_true rfl) ⟨Nat.le_of_ble_eq_true rfl, Nat.le_of_ble_eq_true rfl⟩ ?_
          refine g_if_eq X dX7_field_38 (tgt := 53) (by decide) hf (fun c46 hf => ?_) (fun c46 hf => ?_)
          · refine g_bipush X dX7_field_53 (v := (-12)) (by decide) ?_
            exact g_iret X hr dX7_field_55 hf
          · refine g_iload_n X (i := 3) dX7_field_41 rfl rfl ?_
            refine g_if_lt X dX7_field_42 (tgt := 56) (by decide) hf (fun c47 hf => ?_) (fun c47 hf => ?_)
            · refine g_aload_n X (i := 0) dX7_field_56 rfl rfl ?_
              obtain ⟨o48, h49, hf⟩ := hfb hf
              refine g_Vv X (q0 := 0) (As := []) (rest := []) (c_X7_changes h49) dX7_field_57 ml_X7_81 yv_X7_changes rfl rfl rfl rfl ⟨Nat.le_of_ble_eq_true rfl, Nat.le_of_ble_eq_true rfl⟩ ⟨rfl, rfl⟩ (Nat.le_of_ble_eq_true rfl) ⟨Nat.le_of_ble_eq_true rfl, Nat.le_of_ble_eq_true rfl⟩ ?_
              refine g_aload_n X (i := 0) dX7_field_60 rfl rfl ?_
              refine g_iload_n X (i := 1) dX7_field_61 rfl rfl ?_
              refine g_iconst X dX7_field_62 (v := 1) (by decide) ?_
              refine g_iload_n X (i := 2) dX7_field_63 rfl rfl ?_
              refine g_iadd X dX7_field_64 ?_
              obtain ⟨o50, h51, hf⟩ := hfb hf
              refine g_Vi X (q0 := 0) (As := [.int x1, .int (1 + x2)]) (rest := []) (c_X7_of h51) dX7_field_65 ml_X7_43 yv_X7_of rfl rfl rfl rfl ⟨Nat.le_of_ble_eq_true rfl, Nat.le_of_ble_eq_true rfl⟩ ⟨rfl, rfl⟩ (Nat.le_of_ble_eq_true rfl) ⟨Nat.le_of_ble_eq_true rfl, Nat.le_of_ble_eq_true rfl⟩ ?_
              refine g_istore X dX7_field_68 (by decide) rfl ?_
              refine g_aload_n X (i := 0) dX7_field_70 rfl rfl ?_
              refine g_iload_n X (i := 1) dX7_field_71 rfl rfl ?_
              refine g_iconst X dX7_field_72 (v := 1) (by decide) ?_
              refine g_iload_n X (i := 2) dX7_field_73 rfl rfl ?_
              refine g_iadd X dX7_field_74 ?_
              refine g_iload_n X (i := 3) dX7_field_75 rfl rfl ?_
              obtain ⟨o52, h53, hf⟩ := hfb hf
              refine g_Vv X (q0 := 0) (As := [.int x1, .int (1 + x2), .int x3]) (rest := []) (c_X7_sets h53) dX7_field_76 ml_X7_58 yv_X7_sets rfl rfl rfl rfl ⟨Nat.le_of_ble_eq_true rfl, Nat.le_of_ble_eq_true rfl⟩ ⟨rfl, rfl⟩ (Nat.le_of_ble_eq_true rfl) ⟨Nat.le_of_ble_eq_true rfl, Nat.le_of_ble_eq_true rfl⟩ ?_
              refine g_aload_n X (i := 0) dX7_field_79 rfl rfl ?_
              refine g_iload X dX7_field_80 rfl ?_
              refine g_iload_n X (i := 3) dX7_field_82 rfl rfl ?_
              refine g_aload_n X (i := 0) dX7_field_83 rfl rfl ?_
              refine g_iload_n X (i := 1) dX7_field_84 rfl rfl ?_
              refine g_iconst X dX7_field_85 (v := 5) (by decide) ?_
              obtain ⟨o54, h55, hf⟩ := hfb hf
              refine g_Vi X (q0 := 0) (As := [.int x1, .int 5]) (rest := [.int x3, .int o50.1, .ref (ad 0)]) (c_X7_of h55) dX7_field_86 ml_X7_43 yv_X7_of rfl rfl rfl rfl ⟨Nat.le_of_ble_eq_true rfl, Nat.le_of_ble_eq_true rfl⟩ ⟨rfl, rfl⟩ (Nat.le_of_ble_eq_true rfl) ⟨Nat.le_of_ble_eq_true rfl, Nat.le_of_ble_eq_true rfl⟩ ?_
              refine g_iconst X dX7_field_89 (v := 2) (by decide) ?_
              refine g_icmp_ne X dX7_field_90 (tgt := 97) (by decide) hf (fun c56 hf => ?_) (fun c56 hf => ?_)
              · refine g_iconst X dX7_field_93 (v := 1) (by decide) ?_
                refine g_goto X dX7_field_94 (tgt := 98) (by decide) ?_
                obtain ⟨o57, h58, hf⟩ := hfb hf
                refine g_Vv X (q0 := 0) (As := [.int o50.1, .int x3, .int 1]) (rest := []) (c_X7_cares h58) dX7_field_98 ml_X7_70 yv_X7_cares rfl rfl rfl rfl ⟨Nat.le_of_ble_eq_true rfl, Nat.le_of_ble_eq_true rfl⟩ ⟨rfl, rfl⟩ (Nat.le_of_ble_eq_true rfl) ⟨Nat.le_of_ble_eq_true rfl, Nat.le_of_ble_eq_true rfl⟩ ?_
                refine g_iload X dX7_field_101 rfl ?_
                exact g_iret X hr dX7_field_103 hf
              · refine g_iconst X dX7_field_97 (v := 0) (by decide) ?_
                obtain ⟨o59, h60, hf⟩ := hfb hf
                refine g_Vv X (q0 := 0) (As := [.int o50.1, .int x3, .int 0]) (rest := []) (c_X7_cares h60) dX7_field_98 ml_X7_70 yv_X7_cares rfl rfl rfl rfl ⟨Nat.le_of_ble_eq_true rfl, Nat.le_of_ble_eq_true rfl⟩ ⟨rfl, rfl⟩ (Nat.le_of_ble_eq_true rfl) ⟨Nat.le_of_ble_eq_true rfl, Nat.le_of_ble_eq_true rfl⟩ ?_
                refine g_iload X dX7_field_101 rfl ?_
                exact g_iret X hr dX7_field_103 hf
            · refine g_aload_n X (i := 0) dX7_field_45 rfl rfl ?_
              refine g_iload_n X (i := 3) dX7_field_46 rfl rfl ?_
              obtain ⟨o61, h62, hf⟩ := hfb hf
              refine g_Vi X (q0 := 0) (As := [.int x3]) (rest := []) (c_X7_isReached h62) dX7_field_47 ml_X7_90 yv_X7_isReached rfl rfl rfl rfl ⟨Nat.le_of_ble_eq_true rfl, Nat.le_of_ble_eq_true rfl⟩ ⟨rfl, rfl⟩ (Nat.le_of_ble_eq_true rfl) ⟨Nat.le_of_ble_eq_true rfl, Nat.le_of_ble_eq_true rfl⟩ ?_
              refine g_if_ne X dX7_field_50 (tgt := 56) (by decide) hf (fun c63 hf => ?_) (fun c63 hf => ?_)
              · refine g_bipush X dX7_field_53 (v := (-12)) (by decide) ?_
                exact g_iret X hr dX7_field_55 hf
              · refine g_aload_n X (i := 0) dX7_field_56 rfl rfl ?_
                obtain ⟨o64, h65, hf⟩ := hfb hf
                refine g_Vv X (q0 := 0) (As := []) (rest := []) (c_X7_changes h65) dX7_field_57 ml_X7_81 yv_X7_changes rfl rfl rfl rfl ⟨Nat.le_of_ble_eq_true rfl, Nat.le_of_ble_eq_true rfl⟩ ⟨rfl, rfl⟩ (Nat.le_of_ble_eq_true rfl) ⟨Nat.le_of_ble_eq_true rfl, Nat.le_of_ble_eq_true rfl⟩ ?_
                refine g_aload_n X (i := 0) dX7_field_60 rfl rfl ?_
                refine g_iload_n X (i := 1) dX7_field_61 rfl rfl ?_
                refine g_iconst X dX7_field_62 (v := 1) (by decide) ?_
                refine g_iload_n X (i := 2) dX7_field_63 rfl rfl ?_
                refine g_iadd X dX7_field_64 ?_
                obtain ⟨o66, h67, hf⟩ := hfb hf
                refine g_Vi X (q0 := 0) (As := [.int x1, .int (1 + x2)]) (rest := []) (c_X7_of h67) dX7_field_65 ml_X7_43 yv_X7_of rfl rfl rfl rfl ⟨Nat.le_of_ble_eq_true rfl, Nat.le_of_ble_eq_true rfl⟩ ⟨rfl, rfl⟩ (Nat.le_of_ble_eq_true rfl) ⟨Nat.le_of_ble_eq_true rfl, Nat.le_of_ble_eq_true rfl⟩ ?_
                refine g_istore X dX7_field_68 (by decide) rfl ?_
                refine g_aload_n X (i := 0) dX7_field_70 rfl rfl ?_
                refine g_iload_n X (i := 1) dX7_field_71 rfl rfl ?_
                refine g_iconst X dX7_field_72 (v := 1) (by decide) ?_
                refine g_iload_n X (i := 2) dX7_field_73 rfl rfl ?_
                refine g_iadd X dX7_field_74 ?_
                refine g_iload_n X (i := 3) dX7_field_75 rfl rfl ?_
                obtain ⟨o68, h69, hf⟩ := hfb hf
                refine g_Vv X (q0 := 0) (As := [.int x1, .int (1 + x2), .int x3]) (rest := []) (c_X7_sets h69) dX7_field_76 ml_X7_58 yv_X7_sets rfl rfl rfl rfl ⟨Nat.le_of_ble_eq_true rfl, Nat.le_of_ble_eq_true rfl⟩ ⟨rfl, rfl⟩ (Nat.le_of_ble_eq_true rfl) ⟨Nat.le_of_ble_eq_true rfl, Nat.le_of_ble_eq_true rfl⟩ ?_
                refine g_aload_n X (i := 0) dX7_field_79 rfl rfl ?_
                refine g_iload X dX7_field_80 rfl ?_
                refine g_iload_n X (i := 3) dX7_field_82 rfl rfl ?_
                refine g_aload_n X (i := 0) dX7_field_83 rfl rfl ?_
                refine g_iload_n X (i := 1) dX7_field_84 rfl rfl ?_
                refine g_iconst X dX7_field_85 (v := 5) (by decide) ?_
                obtain ⟨o70, h71, hf⟩ := hfb hf
                refine g_Vi X (q0 := 0) (As := [.int x1, .int 5]) (rest := [.int x3, .int o66.1, .ref (ad 0)]) (c_X7_of h71) dX7_field_86 ml_X7_43 yv_X7_of rfl rfl rfl rfl ⟨Nat.le_of_ble_eq_true rfl, Nat.le_of_ble_eq_true rfl⟩ ⟨rfl, rfl⟩ (Nat.le_of_ble_eq_true rfl) ⟨Nat.le_of_ble_eq_true rfl, Nat.le_of_ble_eq_true rfl⟩ ?_
                refine g_iconst X dX7_field_89 (v := 2) (by decide) ?_
                refine g_icmp_ne X dX7_field_90 (tgt := 97) (by decide) hf (fun c72 hf => ?_) (fun c72 hf => ?_)
                · refine g_iconst X dX7_field_93 (v := 1) (by decide) ?_
                  refine g_goto X dX7_field_94 (tgt := 98) (by decide) ?_
                  obtain ⟨o73, h74, hf⟩ := hfb hf
                  refine g_Vv X (q0 := 0) (As := [.int o66.1, .int x3, .int 1]) (rest := []) (c_X7_cares h74) dX7_field_98 ml_X7_70 yv_X7_cares rfl rfl rfl rfl ⟨Nat.le_of_ble_eq_true rfl, Nat.le_of_ble_eq_true rfl⟩ ⟨rfl, rfl⟩ (Nat.le_of_ble_eq_true rfl) ⟨Nat.le_of_ble_eq_true rfl, Nat.le_of_ble_eq_true rfl⟩ ?_
                  refine g_iload X dX7_field_101 rfl ?_
                  exact g_iret X hr dX7_field_103 hf
                · refine g_iconst X dX7_field_97 (v := 0) (by decide) ?_
                  obtain ⟨o75, h76, hf⟩ := hfb hf
                  refine g_Vv X (q0 := 0) (As := [.int o66.1, .int x3, .int 0]) (rest := []) (c_X7_cares h76) dX7_field_98 ml_X7_70 yv_X7_cares rfl rfl rfl rfl ⟨Nat.le_of_ble_eq_true rfl, Nat.le_of_ble_eq_true rfl⟩ ⟨rfl, rfl⟩ (Nat.le_of_ble_eq_true rfl) ⟨Nat.le_of_ble_eq_true rfl, Nat.le_of_ble_eq_true rfl⟩ ?_
                  refine g_iload X dX7_field_101 rfl ?_
                  exact g_iret X hr dX7_field_103 hf
def f_X7_lowestFree_L2 : Nat → Int32 → St → Option (Int32 × St)
  | 0, _, _ => none
  | n + 1, x1, w => (if x1 < 24 then (f_X7_of x1 0 w).bind fun o2 => (if o2.1 = 0 then some (x1, o2.2) else f_X7_lowestFree_L2 n (x1 + 1) o2.2) else some ((-14), w))
def f_X7_lowestFree (w : St) : Option (Int32 × St) := f_X7_lowestFree_L2 BIG 0 w
set_option maxRecDepth 100000 in
set_option maxHeartbeats 4000000 in
theorem gl_X7_lowestFree_L2 {p : Program} {l : Launch} {e : Env} {s : State} {m : MethodId} {args : Array Value} {below : List Frame} {meth : Method} {c : Code} {D : va_G} {A : Nat → Prop} {cI : ClassId × ClassId} {ad : Nat → Nat} {o : Int32 × St} (X : gX p s m args meth c cX7_lowestFree 2 RX7 D cI) (hr : meth.sig.returnType = some .int) (n : Nat) : ∀ {x1 : Int32} {w : St}, f_X7_lowestFree_L2 n x1 w = some o → G p l e rm_X7_lowestFree s m args below meth c D A 2 (MQ below (qcI D A o.1 ((wM ad cI) o.2)) args s 0 0 A) (wM ad cI) 0 0 2 [some (.ref (ad 0)), some (.int x1)] [] w := by
  induction n with
  | zero => intro x1 w hf; cases hf
  | succ n ih =>
    intro x1 w hf
    rw [f_X7_lowestFree_L2] at hf
    refine g_iload_n X (i := 1) dX7_lowestFree_2 rfl rfl ?_
    refine g_bipush X dX7_lowestFree_3 (v := 24) (by decide) ?_
    refine g_icmp_ge X dX7_lowestFree_5 (tgt := 25) (by decide) hf (fun c1 hf => ?_) (fun c1 hf => ?_)
    · refine g_aload_n X (i := 0) dX7_lowestFree_8 rfl rfl ?_
      refine g_iload_n X (i := 1) dX7_lowestFree_9 rfl rfl ?_
      refine g_iconst X dX7_lowestFree_10 (v := 0) (by decide) ?_
      obtain ⟨o2, h3, hf⟩ := hfb hf
      refine g_Vi X (q0 := 0) (As := [.int x1, .int 0]) (rest := []) (c_X7_of h3) dX7_lowestFree_11 ml_X7_43 yv_X7_of rfl rfl rfl rfl ⟨Nat.le_of_ble_eq_true rfl, Nat.le_of_ble_eq_true rfl⟩ ⟨rfl, rfl⟩ (Nat.le_of_ble_eq_true rfl) ⟨Nat.le_of_ble_eq_true rfl, Nat.le_of_ble_eq_true rfl⟩ ?_
      refine g_if_ne X dX7_lowestFree_14 (tgt := 19) (by decide) hf (fun c4 hf => ?_) (fun c4 hf => ?_)
      · refine g_iload_n X (i := 1) dX7_lowestFree_17 rfl rfl ?_
        exact g_iret X hr dX7_lowestFree_18 hf
      · refine g_iinc X (i := 1) (v := 1) dX7_lowestFree_19 rfl (by decide) (by decide) rfl ?_
        refine g_goto X dX7_lowestFree_22 (tgt := 2) (by decide) ?_
        exact ih hf
    · refine g_bipush X dX7_lowestFree_25 (v := (-14)) (by decide) ?_
      exact g_iret X hr dX7_lowestFree_27 hf
set_option maxRecDepth 100000 in
set_option maxHeartbeats 4000000 in
theorem c_X7_lowestFree {l : Launch} {D : va_G} {cI : ClassId × ClassId} {A : Nat → Prop} {ad : Nat → Nat} {w : St} {o : Int32 × St} (hf : f_X7_lowestFree w = some o) : CTi l D cI A yX7_lowestFree cX7_lowestFree 2 (some .int) rm_X7_lowestFree [.ref (ad 0)] ((wM ad cI) w) o.1 ((wM ad cI) o.2)   := by
  refine CTi.of (by decide +kernel) rfl (Nat.le_of_ble_eq_true rfl) ?_
  intro p e s m args below meth c X hr
  have X : gX p s m args meth c cX7_lowestFree 2 RX7 D cI := X
  show G _ _ _ _ _ _ _ _ _ _ _ _ _ _ _ _ _ 0 [some (.ref (ad 0)), none] [] w
  unfold f_X7_lowestFree at hf
  refine g_iconst X dX7_lowestFree_0 (v := 0) (by decide) ?_
  refine g_istore_n X (i := 1) dX7_lowestFree_1 rfl (by decide) rfl ?_
  exact gl_X7_lowestFree_L2 X hr BIG hf
def f_X7_make_L35 : Nat → Int32 → Int32 → Int32 → St → Option (St)
  | 0, _, _, _, _ => none
  | n + 1, x1, x2, x3, w => (if x3 < 3 then (f_X7_sets x2 (1 + x3) (-1) w).bind fun o12 => f_X7_make_L35 n x1 x2 (x3 + 1) o12.2 else some (w))
def f_X7_make (x1 : Int32) (w : St) : Option (Int32 × St) := (f_X7_isRoot x1 w).bind fun o1 => (if o1.1 = 0 then some ((-11), o1.2) else (f_X7_lowestFree o1.2).bind fun o4 => (if o4.1 < 0 then some ((-13), o4.2) else (f_X7_changes o4.2).bind fun o7 => (f_X7_sets o4.1 0 1 o7.2).bind fun o9 => (f_X7_make_L35 BIG x1 o4.1 0 o9.2).bind fun o14 => (f_X7_sets o4.1 4 0 o14).bind fun o16 => (f_X7_isMarking o16.2).bind fun o18 => (if o18.1 = 0 then if ib 226 235 then (if (o18.2.2 0 (226 : Int32).toNatClampNeg) = 3 then if ib 227 235 then (if o4.1 < (o18.2.2 0 (227 : Int32).toNatClampNeg) then (f_X7_sets o4.1 5 0 o18.2).bind fun o25 => (f_X7_sets o4.1 6 0 o25.2).bind fun o27 => if ib 229 235 then if ib 229 235 then (f_X7_writesRoot x1 o4.1 (sA o27.2 0 229 ((o27.2.2 0 (229 : Int32).toNatClampNeg) + 1))).bind fun o31 => (if o31.1 < 24 then some (o4.1, o31.2) else some (o31.1, o31.2)) else none else none else (f_X7_sets o4.1 5 2 o18.2).bind fun o34 => (f_X7_sets o4.1 6 0 o34.2).bind fun o36 => if ib 229 235 then if ib 229 235 then (f_X7_writesRoot x1 o4.1 (sA o36.2 0 229 ((o36.2.2 0 (229 : Int32).toNatClampNeg) + 1))).bind fun o40 => (if o40.1 < 24 then some (o4.1, o40.2) else some (o40.1, o40.2)) else none else none) else none else (f_X7_sets o4.1 5 0 o18.2).bind fun o43 => (f_X7_sets o4.1 6 0 o43.2).bind fun o45 => if ib 229 235 then if ib 229 235 then (f_X7_writesRoot x1 o4.1 (sA o45.2 0 229 ((o45.2.2 0 (229 : Int32).toNatClampNeg) + 1))).bind fun o49 => (if o49.1 < 24 then some (o4.1, o49.2) else some (o49.1, o49.2)) else none else none) else none else (f_X7_sets o4.1 5 2 o18.2).bind fun o52 => (f_X7_sets o4.1 6 0 o52.2).bind fun o54 => if ib 229 235 then if ib 229 235 then (f_X7_writesRoot x1 o4.1 (sA o54.2 0 229 ((o54.2.2 0 (229 : Int32).toNatClampNeg) + 1))).bind fun o58 => (if o58.1 < 24 then some (o4.1, o58.2) else some (o58.1, o58.2)) else none else none)))
set_option maxRecDepth 100000 in
set_option maxHeartbeats 4000000 in
theorem gl_X7_make_L35 {p : Program} {l : Launch} {e : Env} {s : State} {m : MethodId} {args : Array Value} {below : List Frame} {meth : Method} {c : Code} {D : va_G} {A : Nat → Prop} {cI : ClassId × ClassId} {ad : Nat → Nat} {Q : State → Prop} {o : St} (X : gX p s m args meth c cX7_make 4 RX7 D cI) (n : Nat) : ∀ {x1 x2 x3 : Int32} {w : St}, f_X7_make_L35 n x1 x2 x3 w = some o → G p l e rm_X7_make s m args below meth c D A 4 Q (wM ad cI) 0 0 55 [some (.ref (ad 0)), some (.int x1), some (.int x2), none] [] o → G p l e rm_X7_make s m args below meth c D A 4 Q (wM ad cI) 0 0 35 [some (.ref (ad 0)), some (.int x1), some (.int x2), some (.int x3)] [] w := by
  induction n with
  | zero => intro x1 x2 x3 w hf; cases hf
  | succ n ih =>
    intro x1 x2 x3 w hf k
    rw [f_X7_make_L35] at hf
    refine g_iload_n X (i := 3) dX7_make_35 rfl rfl ?_
    refine g_iconst X dX7_make_36 (v := 3) (by decide) ?_
    refine g_icmp_ge X dX7_make_37 (tgt := 55) (by decide) hf (fun c11 hf => ?_) (fun c11 hf => ?_)
    · refine g_aload_n X (i := 0) dX7_make_40 rfl rfl ?_
      refine g_iload_n X (i := 2) dX7_make_41 rfl rfl ?_
      refine g_iconst X dX7_make_42 (v := 1) (by decide) ?_
      refine g_iload_n X (i := 3) dX7_make_43 rfl rfl ?_
      refine g_iadd X dX7_make_44 ?_
      refine g_iconst X dX7_make_45 (v := (-1)) (by decide) ?_
      obtain ⟨o12, h13, hf⟩ := hfb hf
      refine g_Vv X (q0 := 0) (As := [.int x2, .int (1 + x3), .int (-1)]) (rest := []) (c_X7_sets h13) dX7_make_46 ml_X7_58 yv_X7_sets rfl rfl rfl rfl ⟨Nat.le_of_ble_eq_true rfl, Nat.le_of_ble_eq_true rfl⟩ ⟨rfl, rfl⟩ (Nat.le_of_ble_eq_true rfl) ⟨Nat.le_of_ble_eq_true rfl, Nat.le_of_ble_eq_true rfl⟩ ?_
      refine g_iinc X (i := 3) (v := 1) dX7_make_49 rfl (by decide) (by decide) rfl ?_
      refine g_goto X dX7_make_52 (tgt := 35) (by decide) ?_
      exact ih hf k
    · obtain rfl := Option.some.inj hf
      refine g_sub (losub (lo' := [some (.ref (ad 0)), some (.int x1), some (.int x2), none]) ⟨rfl, rfl, rfl, trivial⟩) ?_
      exact k
set_option maxRecDepth 100000 in
set_option maxHeartbeats 4000000 in
theorem c_X7_make {l : Launch} {D : va_G} {cI : ClassId × ClassId} {A : Nat → Prop} {ad : Nat → Nat} {x1 : Int32} {w : St} {o : Int32 × St} (hf : f_X7_make x1 w = some o) : CTi l D cI A yX7_make cX7_make 4 (some .int) rm_X7_make [.ref (ad 0), .int x1] ((wM ad cI) w) o.1 ((wM ad cI) o.2)   := by
  refine CTi.of (by decide +kernel) rfl (Nat.le_of_ble_eq_true rfl) ?_
  intro p e s m args below meth c X hr
  have X : gX p s m args meth c cX7_make 4 RX7 D cI := X
  show G _ _ _ _ _ _ _ _ _ _ _ _ _ _ _ _ _ 0 [some (.ref (ad 0)), some (.int x1), none, none] [] w
  unfold f_X7_make at hf
  refine g_iload_n X (i := 1) dX7_make_0 rfl rfl ?_
  obtain ⟨o1, h2, hf⟩ := hfb hf
  refine g_Si X (As := [.int x1]) (rest := []) (c_X7_isRoot (wf := (wM ad cI)) h2) dX7_make_1 ml_X7_74 yv_X7_isRoot rfl rfl ⟨Nat.le_of_ble_eq_true rfl, Nat.le_of_ble_eq_true rfl⟩ ⟨rfl, rfl⟩ (Nat.le_of_ble_eq_true rfl) ⟨Nat.le_of_ble_eq_true rfl, Nat.le_of_ble_eq_true rfl⟩ ?_
  refine g_if_ne X dX7_make_4 (tgt := 10) (by decide) hf (fun c3 hf => ?_) (fun c3 hf => ?_)
  · refine g_bipush X dX7_make_7 (v := (-11)) (by decide) ?_
    exact g_iret X hr dX7_make_9 hf
  · refine g_aload_n X (i := 0) dX7_make_10 rfl rfl ?_
    obtain ⟨o4, h5, hf⟩ := hfb hf
    refine g_Vi X (q0 := 0) (As := []) (rest := []) (c_X7_lowestFree h5) dX7_make_11 ml_X7_78 yv_X7_lowestFree rfl rfl rfl rfl ⟨Nat.le_of_ble_eq_true rfl, Nat.le_of_ble_eq_true rfl⟩ ⟨rfl, rfl⟩ (Nat.le_of_ble_eq_true rfl) ⟨Nat.le_of_ble_eq_true rfl, Nat.le_of_ble_eq_true rfl⟩ ?_
    refine g_istore_n X (i := 2) dX7_make_14 rfl (by decide) rfl ?_
    refine g_iload_n X (i := 2) dX7_make_15 rfl rfl ?_
    refine g_if_ge X dX7_make_16 (tgt := 22) (by decide) hf (fun c6 hf => ?_) (fun c6 hf => ?_)
    · refine g_bipush X dX7_make_19 (v := (-13)) (by decide) ?_
      exact g_iret X hr dX7_make_21 hf
    · refine g_aload_n X (i := 0) dX7_make_22 rfl rfl ?_
      obtain ⟨o7, h8, hf⟩ := hfb hf
      refine g_Vv X (q0 := 0) (As := []) (rest := []) (c_X7_changes h8) dX7_make_23 ml_X7_81 yv_X7_changes rfl rfl rfl rfl ⟨Nat.le_of_ble_eq_true rfl, Nat.le_of_ble_eq_true rfl⟩ ⟨rfl, rfl⟩ (Nat.le_of_ble_eq_true rfl) ⟨Nat.le_of_ble_eq_true rfl, Nat.le_of_ble_eq_true rfl⟩ ?_
      refine g_aload_n X (i := 0) dX7_make_26 rfl rfl ?_
      refine g_iload_n X (i := 2) dX7_make_27 rfl rfl ?_
      refine g_iconst X dX7_make_28 (v := 0) (by decide) ?_
      refine g_iconst X dX7_make_29 (v := 1) (by decide) ?_
      obtain ⟨o9, h10, hf⟩ := hfb hf
      refine g_Vv X (q0 := 0) (As := [.int o4.1, .int 0, .int 1]) (rest := []) (c_X7_sets h10) dX7_make_30 ml_X7_58 yv_X7_sets rfl rfl rfl rfl ⟨Nat.le_of_ble_eq_true rfl, Nat.le_of_ble_eq_true rfl⟩ ⟨rfl, rfl⟩ (Nat.le_of_ble_eq_true rfl) ⟨Nat.le_of_ble_eq_true rfl, Nat.le_of_ble_eq_true rfl⟩ ?_
      refine g_iconst X dX7_make_33 (v := 0) (by decide) ?_
      refine g_istore_n X (i := 3) dX7_make_34 rfl (by decide) rfl ?_
      obtain ⟨o14, h15, hf⟩ := hfb hf
      refine gl_X7_make_L35 X BIG h15 ?_
      refine g_aload_n X (i := 0) dX7_make_55 rfl rfl ?_
      refine g_iload_n X (i := 2) dX7_make_56 rfl rfl ?_
      refine g_iconst X dX7_make_57 (v := 4) (by decide) ?_
      refine g_iconst X dX7_make_58 (v := 0) (by decide) ?_
      obtain ⟨o16, h17, hf⟩ := hfb hf
      refine g_Vv X (q0 := 0) (As := [.int o4.1, .int 4, .int 0]) (rest := []) (c_X7_sets h17) dX7_make_59 ml_X7_58 yv_X7_sets rfl rfl rfl rfl ⟨Nat.le_of_ble_eq_true rfl, Nat.le_of_ble_eq_true rfl⟩ ⟨rfl, rfl⟩ (Nat.le_of_ble_eq_true rfl) ⟨Nat.le_of_ble_eq_true rfl, Nat.le_of_ble_eq_true rfl⟩ ?_
      refine g_aload_n X (i := 0) dX7_make_62 rfl rfl ?_
      refine g_iload_n X (i := 2) dX7_make_63 rfl rfl ?_
      refine g_iconst X dX7_make_64 (v := 5) (by decide) ?_
      refine g_aload_n X (i := 0) dX7_make_65 rfl rfl ?_
      obtain ⟨o18, h19, hf⟩ := hfb hf
      refine g_Vi X (q0 := 0) (As := []) (rest := [.int 5, .int o4.1, .ref (ad 0)]) (c_X7_isMarking h19) dX7_make_66 ml_X7_62 yv_X7_isMarking rfl rfl rfl rfl ⟨Nat.le_of_ble_eq_true rfl, Nat.le_of_ble_eq_true rfl⟩ ⟨rfl, rfl⟩ (Nat.le_of_ble_eq_true rfl) ⟨Nat.le_of_ble_eq_true rfl, Nat.le_of_ble_eq_true rfl⟩ ?_
      refine g_if_ne X dX7_make_69 (tgt := 96) (by decide) hf (fun c20 hf => ?_) (fun c20 hf => ?_)
      · refine g_aload_n X (i := 0) dX7_make_72 rfl rfl ?_
        refine g_get X (q0 := 0) (v := .ref (ad 1)) 0 dX7_make_73 gC_X7 rfl rfl (by decide) fl_X7_7 rfl rfl ?_
        refine g_sipush X dX7_make_76 (v := 226) (by decide) ?_
        obtain ⟨hb21, hf⟩ := hfg hf
        refine g_iald X (q0 := 1) (f := o18.2.2 0) dX7_make_79 rfl hb21 ?_
        refine g_iconst X dX7_make_80 (v := 3) (by decide) ?_
        refine g_icmp_ne X dX7_make_81 (tgt := 100) (by decide) hf (fun c22 hf => ?_) (fun c22 hf => ?_)
        · refine g_iload_n X (i := 2) dX7_make_84 rfl rfl ?_
          refine g_aload_n X (i := 0) dX7_make_85 rfl rfl ?_
          refine g_get X (q0 := 0) (v := .ref (ad 1)) 0 dX7_make_86 gC_X7 rfl rfl (by decide) fl_X7_7 rfl rfl ?_
          refine g_sipush X dX7_make_89 (v := 227) (by decide) ?_
          obtain ⟨hb23, hf⟩ := hfg hf
          refine g_iald X (q0 := 1) (f := o18.2.2 0) dX7_make_92 rfl hb23 ?_
          refine g_icmp_lt X dX7_make_93 (tgt := 100) (by decide) hf (fun c24 hf => ?_) (fun c24 hf => ?_)
          · refine g_iconst X dX7_make_100 (v := 0) (by decide) ?_
            obtain ⟨o25, h26, hf⟩ := hfb hf
            refine g_Vv X (q0 := 0) (As := [.int o4.1, .int 5, .int 0]) (rest := []) (c_X7_sets h26) dX7_make_101 ml_X7_58 yv_X7_sets rfl rfl rfl rfl ⟨Nat.le_of_ble_eq_true rfl, Nat.le_of_ble_eq_true rfl⟩ ⟨rfl, rfl⟩ (Nat.le_of_ble_eq_true rfl) ⟨Nat.le_of_ble_eq_true rfl, Nat.le_of_ble_eq_true rfl⟩ ?_
            refine g_aload_n X (i := 0) dX7_make_104 rfl rfl ?_
            refine g_iload_n X (i := 2) dX7_make_105 rfl rfl ?_
            refine g_bipush X dX7_make_106 (v := 6) (by decide) ?_
            refine g_iconst X dX7_make_108 (v := 0) (by decide) ?_
            obtain ⟨o27, h28, hf⟩ := hfb hf
            refine g_Vv X (q0 := 0) (As := [.int o4.1, .int 6, .int 0]) (rest := []) (c_X7_sets h28) dX7_make_109 ml_X7_58 yv_X7_sets rfl rfl rfl rfl ⟨Nat.le_of_ble_eq_true rfl, Nat.le_of_ble_eq_true rfl⟩ ⟨rfl, rfl⟩ (Nat.le_of_ble_eq_true rfl) ⟨Nat.le_of_ble_eq_true rfl, Nat.le_of_ble_eq_true rfl⟩ ?_
            refine g_aload_n X (i := 0) dX7_make_112 rfl rfl ?_
            refine g_get X (q0 := 0) (v := .ref (ad 1)) 0 dX7_make_113 gC_X7 rfl rfl (by decide) fl_X7_7 rfl rfl ?_
            refine g_sipush X dX7_make_116 (v := 229) (by decide) ?_
            refine g_dup2 X dX7_make_119 rfl rfl ?_
            obtain ⟨hb29, hf⟩ := hfg hf
            refine g_iald X (q0 := 1) (f := o27.2.2 0) dX7_make_120 rfl hb29 ?_
            refine g_iconst X dX7_make_121 (v := 1) (by decide) ?_
            refine g_iadd X dX7_make_122 ?_
            obtain ⟨hb30, hf⟩ := hfg hf
            refine g_iast X (q0 := 1) (f := o27.2.2 0) dX7_make_123 rfl hb30 (awM_0 ad cI _ _ _) ?_
            refine g_aload_n X (i := 0) dX7_make_124 rfl rfl ?_
            refine g_iload_n X (i := 1) dX7_make_125 rfl rfl ?_
            refine g_iload_n X (i := 2) dX7_make_126 rfl rfl ?_
            obtain ⟨o31, h32, hf⟩ := hfb hf
            refine g_Vi X (q0 := 0) (As := [.int x1, .int o4.1]) (rest := []) (c_X7_writesRoot h32) dX7_make_127 ml_X7_84 yv_X7_writesRoot rfl rfl rfl rfl ⟨Nat.le_of_ble_eq_true rfl, Nat.le_of_ble_eq_true rfl⟩ ⟨rfl, rfl⟩ (Nat.le_of_ble_eq_true rfl) ⟨Nat.le_of_ble_eq_true rfl, Nat.le_of_ble_eq_true rfl⟩ ?_
            refine g_istore_n X (i := 3) dX7_make_130 rfl (by decide) rfl ?_
            refine g_iload_n X (i := 3) dX7_make_131 rfl rfl ?_
            refine g_bipush X dX7_make_132 (v := 24) (by decide) ?_
            refine g_icmp_ge X dX7_make_134 (tgt := 141) (by decide) hf (fun c33 hf => ?_) (fun c33 hf => ?_)
            · refine g_iload_n X (i := 2) dX7_make_137 rfl rfl ?_
              refine g_goto X dX7_make_138 (tgt := 142) (by decide) ?_
              exact g_iret X hr dX7_make_142 hf
            · refine g_iload_n X (i := 3) dX7_make_141 rfl rfl ?_
              exact g_iret X hr dX7_make_142 hf
          · refine g_iconst X dX7_make_96 (v := 2) (by decide) ?_
            refine g_goto X dX7_make_97 (tgt := 101) (by decide) ?_
            obtain ⟨o34, h35, hf⟩ := hfb hf
            refine g_Vv X (q0 := 0) (As := [.int o4.1, .int 5, .int 2]) (rest := []) (c_X7_sets h35) dX7_make_101 ml_X7_58 yv_X7_sets rfl rfl rfl rfl ⟨Nat.le_of_ble_eq_true rfl, Nat.le_of_ble_eq_true rfl⟩ ⟨rfl, rfl⟩ (Nat.le_of_ble_eq_true rfl) ⟨Nat.le_of_ble_eq_true rfl, Nat.le_of_ble_eq_true rfl⟩ ?_
            refine g_aload_n X (i := 0) dX7_make_104 rfl rfl ?_
            refine g_iload_n X (i := 2) dX7_make_105 rfl rfl ?_
            refine g_bipush X dX7_make_106 (v := 6) (by decide) ?_
            refine g_iconst X dX7_make_108 (v := 0) (by decide) ?_
            obtain ⟨o36, h37, hf⟩ := hfb hf
            refine g_Vv X (q0 := 0) (As := [.int o4.1, .int 6, .int 0]) (rest := []) (c_X7_sets h37) dX7_make_109 ml_X7_58 yv_X7_sets rfl rfl rfl rfl ⟨Nat.le_of_ble_eq_true rfl, Nat.le_of_ble_eq_true rfl⟩ ⟨rfl, rfl⟩ (Nat.le_of_ble_eq_true rfl) ⟨Nat.le_of_ble_eq_true rfl, Nat.le_of_ble_eq_true rfl⟩ ?_
            refine g_aload_n X (i := 0) dX7_make_112 rfl rfl ?_
            refine g_get X (q0 := 0) (v := .ref (ad 1)) 0 dX7_make_113 gC_X7 rfl rfl (by decide) fl_X7_7 rfl rfl ?_
            refine g_sipush X dX7_make_116 (v := 229) (by decide) ?_
            refine g_dup2 X dX7_make_119 rfl rfl ?_
            obtain ⟨hb38, hf⟩ := hfg hf
            refine g_iald X (q0 := 1) (f := o36.2.2 0) dX7_make_120 rfl hb38 ?_
            refine g_iconst X dX7_make_121 (v := 1) (by decide) ?_
            refine g_iadd X dX7_make_122 ?_
            obtain ⟨hb39, hf⟩ := hfg hf
            refine g_iast X (q0 := 1) (f := o36.2.2 0) dX7_make_123 rfl hb39 (awM_0 ad cI _ _ _) ?_
            refine g_aload_n X (i := 0) dX7_make_124 rfl rfl ?_
            refine g_iload_n X (i := 1) dX7_make_125 rfl rfl ?_
            refine g_iload_n X (i := 2) dX7_make_126 rfl rfl ?_
            obtain ⟨o40, h41, hf⟩ := hfb hf
            refine g_Vi X (q0 := 0) (As := [.int x1, .int o4.1]) (rest := []) (c_X7_writesRoot h41) dX7_make_127 ml_X7_84 yv_X7_writesRoot rfl rfl rfl rfl ⟨Nat.le_of_ble_eq_true rfl, Nat.le_of_ble_eq_true rfl⟩ ⟨rfl, rfl⟩ (Nat.le_of_ble_eq_true rfl) ⟨Nat.le_of_ble_eq_true rfl, Nat.le_of_ble_eq_true rfl⟩ ?_
            refine g_istore_n X (i := 3) dX7_make_130 rfl (by decide) rfl ?_
            refine g_iload_n X (i := 3) dX7_make_131 rfl rfl ?_
            refine g_bipush X dX7_make_132 (v := 24) (by decide) ?_
            refine g_icmp_ge X dX7_make_134 (tgt := 141) (by decide) hf (fun c42 hf => ?_) (fun c42 hf => ?_)
            · refine g_iload_n X (i := 2) dX7_make_137 rfl rfl ?_
              refine g_goto X dX7_make_138 (tgt := 142) (by decide) ?_
              exact g_iret X hr dX7_make_142 hf
            · refine g_iload_n X (i := 3) dX7_make_141 rfl rfl ?_
              exact g_iret X hr dX7_make_142 hf
        · refine g_iconst X dX7_make_100 (v := 0) (by decide) ?_
          obtain ⟨o43, h44, hf⟩ := hfb hf
          refine g_Vv X (q0 := 0) (As := [.int o4.1, .int 5, .int 0]) (rest := []) (c_X7_sets h44) dX7_make_101 ml_X7_58 yv_X7_sets rfl rfl rfl rfl ⟨Nat.le_of_ble_eq_true rfl, Nat.le_of_ble_eq_true rfl⟩ ⟨rfl, rfl⟩ (Nat.le_of_ble_eq_true rfl) ⟨Nat.le_of_ble_eq_true rfl, Nat.le_of_ble_eq_true rfl⟩ ?_
          refine g_aload_n X (i := 0) dX7_make_104 rfl rfl ?_
          refine g_iload_n X (i := 2) dX7_make_105 rfl rfl ?_
          refine g_bipush X dX7_make_106 (v := 6) (by decide) ?_
          refine g_iconst X dX7_make_108 (v := 0) (by decide) ?_
          obtain ⟨o45, h46, hf⟩ := hfb hf
          refine g_Vv X (q0 := 0) (As := [.int o4.1, .int 6, .int 0]) (rest := []) (c_X7_sets h46) dX7_make_109 ml_X7_58 yv_X7_sets rfl rfl rfl rfl ⟨Nat.le_of_ble_eq_true rfl, Nat.le_of_ble_eq_true rfl⟩ ⟨rfl, rfl⟩ (Nat.le_of_ble_eq_true rfl) ⟨Nat.le_of_ble_eq_true rfl, Nat.le_of_ble_eq_true rfl⟩ ?_
          refine g_aload_n X (i := 0) dX7_make_112 rfl rfl ?_
          refine g_get X (q0 := 0) (v := .ref (ad 1)) 0 dX7_make_113 gC_X7 rfl rfl (by decide) fl_X7_7 rfl rfl ?_
          refine g_sipush X dX7_make_116 (v := 229) (by decide) ?_
          refine g_dup2 X dX7_make_119 rfl rfl ?_
          obtain ⟨hb47, hf⟩ := hfg hf
          refine g_iald X (q0 := 1) (f := o45.2.2 0) dX7_make_120 rfl hb47 ?_
          refine g_iconst X dX7_make_121 (v := 1) (by decide) ?_
          refine g_iadd X dX7_make_122 ?_
          obtain ⟨hb48, hf⟩ := hfg hf
          refine g_iast X (q0 := 1) (f := o45.2.2 0) dX7_make_123 rfl hb48 (awM_0 ad cI _ _ _) ?_
          refine g_aload_n X (i := 0) dX7_make_124 rfl rfl ?_
          refine g_iload_n X (i := 1) dX7_make_125 rfl rfl ?_
          refine g_iload_n X (i := 2) dX7_make_126 rfl rfl ?_
          obtain ⟨o49, h50, hf⟩ := hfb hf
          refine g_Vi X (q0 := 0) (As := [.int x1, .int o4.1]) (rest := []) (c_X7_writesRoot h50) dX7_make_127 ml_X7_84 yv_X7_writesRoot rfl rfl rfl rfl ⟨Nat.le_of_ble_eq_true rfl, Nat.le_of_ble_eq_true rfl⟩ ⟨rfl, rfl⟩ (Nat.le_of_ble_eq_true rfl) ⟨Nat.le_of_ble_eq_true rfl, Nat.le_of_ble_eq_true rfl⟩ ?_
          refine g_istore_n X (i := 3) dX7_make_130 rfl (by decide) rfl ?_
          refine g_iload_n X (i := 3) dX7_make_131 rfl rfl ?_
          refine g_bipush X dX7_make_132 (v := 24) (by decide) ?_
          refine g_icmp_ge X dX7_make_134 (tgt := 141) (by decide) hf (fun c51 hf => ?_) (fun c51 hf => ?_)
          · refine g_iload_n X (i := 2) dX7_make_137 rfl rfl ?_
            refine g_goto X dX7_make_138 (tgt := 142) (by decide) ?_
            exact g_iret X hr dX7_make_142 hf
          · refine g_iload_n X (i := 3) dX7_make_141 rfl rfl ?_
            exact g_iret X hr dX7_make_142 hf
      · refine g_iconst X dX7_make_96 (v := 2) (by decide) ?_
        refine g_goto X dX7_make_97 (tgt := 101) (by decide) ?_
        obtain ⟨o52, h53, hf⟩ := hfb hf
        refine g_Vv X (q0 := 0) (As := [.int o4.1, .int 5, .int 2]) (rest := []) (c_X7_sets h53) dX7_make_101 ml_X7_58 yv_X7_sets rfl rfl rfl rfl ⟨Nat.le_of_ble_eq_true rfl, Nat.le_of_ble_eq_true rfl⟩ ⟨rfl, rfl⟩ (Nat.le_of_ble_eq_true rfl) ⟨Nat.le_of_ble_eq_true rfl, Nat.le_of_ble_eq_true rfl⟩ ?_
        refine g_aload_n X (i := 0) dX7_make_104 rfl rfl ?_
        refine g_iload_n X (i := 2) dX7_make_105 rfl rfl ?_
        refine g_bipush X dX7_make_106 (v := 6) (by decide) ?_
        refine g_iconst X dX7_make_108 (v := 0) (by decide) ?_
        obtain ⟨o54, h55, hf⟩ := hfb hf
        refine g_Vv X (q0 := 0) (As := [.int o4.1, .int 6, .int 0]) (rest := []) (c_X7_sets h55) dX7_make_109 ml_X7_58 yv_X7_sets rfl rfl rfl rfl ⟨Nat.le_of_ble_eq_true rfl, Nat.le_of_ble_eq_true rfl⟩ ⟨rfl, rfl⟩ (Nat.le_of_ble_eq_true rfl) ⟨Nat.le_of_ble_eq_true rfl, Nat.le_of_ble_eq_true rfl⟩ ?_
        refine g_aload_n X (i := 0) dX7_make_112 rfl rfl ?_
        refine g_get X (q0 := 0) (v := .ref (ad 1)) 0 dX7_make_113 gC_X7 rfl rfl (by decide) fl_X7_7 rfl rfl ?_
        refine g_sipush X dX7_make_116 (v := 229) (by decide) ?_
        refine g_dup2 X dX7_make_119 rfl rfl ?_
        obtain ⟨hb56, hf⟩ := hfg hf
        refine g_iald X (q0 := 1) (f := o54.2.2 0) dX7_make_120 rfl hb56 ?_
        refine g_iconst X dX7_make_121 (v := 1) (by decide) ?_
        refine g_iadd X dX7_make_122 ?_
        obtain ⟨hb57, hf⟩ := hfg hf
        refine g_iast X (q0 := 1) (f := o54.2.2 0) dX7_make_123 rfl hb57 (awM_0 ad cI _ _ _) ?_
        refine g_aload_n X (i := 0) dX7_make_124 rfl rfl ?_
        refine g_iload_n X (i := 1) dX7_make_125 rfl rfl ?_
        refine g_iload_n X (i := 2) dX7_make_126 rfl rfl ?_
        obtain ⟨o58, h59, hf⟩ := hfb hf
        refine g_Vi X (q0 := 0) (As := [.int x1, .int o4.1]) (rest := []) (c_X7_writesRoot h59) dX7_make_127 ml_X7_84 yv_X7_writesRoot rfl rfl rfl rfl ⟨Nat.le_of_ble_eq_true rfl, Nat.le_of_ble_eq_true rfl⟩ ⟨rfl, rfl⟩ (Nat.le_of_ble_eq_true rfl) ⟨Nat.le_of_ble_eq_true rfl, Nat.le_of_ble_eq_true rfl⟩ ?_
        refine g_istore_n X (i := 3) dX7_make_130 rfl (by decide) rfl ?_
        refine g_iload_n X (i := 3) dX7_make_131 rfl rfl ?_
        refine g_bipush X dX7_make_132 (v := 24) (by decide) ?_
        refine g_icmp_ge X dX7_make_134 (tgt := 141) (by decide) hf (fun c60 hf => ?_) (fun c60 hf => ?_)
        · refine g_iload_n X (i := 2) dX7_make_137 rfl rfl ?_
          refine g_goto X dX7_make_138 (tgt := 142) (by decide) ?_
          exact g_iret X hr dX7_make_142 hf
        · refine g_iload_n X (i := 3) dX7_make_141 rfl rfl ?_
          exact g_iret X hr dX7_make_142 hf
def f_X7_root (x1 x2 : Int32) (w : St) : Option (Int32 × St) := (f_X7_isRoot x1 w).bind fun o1 => (if o1.1 = 0 then some ((-11), o1.2) else (if x2 = (-1) then (if x2 < 0 then (f_X7_changes o1.2).bind fun o6 => (f_X7_writesRoot x1 x2 o6.2).bind fun o8 => some (o8.1, o8.2) else (f_X7_isReached x2 o1.2).bind fun o10 => (if o10.1 = 0 then some ((-12), o10.2) else (f_X7_changes o10.2).bind fun o13 => (f_X7_writesRoot x1 x2 o13.2).bind fun o15 => some (o15.1, o15.2))) else (f_X7_isObject x2 o1.2).bind fun o17 => (if o17.1 = 0 then some ((-11), o17.2) else (if x2 < 0 then (f_X7_changes o17.2).bind fun o21 => (f_X7_writesRoot x1 x2 o21.2).bind fun o23 => some (o23.1, o23.2) else (f_X7_isReached x2 o17.2).bind fun o25 => (if o25.1 = 0 then some ((-12), o25.2) else (f_X7_changes o25.2).bind fun o28 => (f_X7_writesRoot x1 x2 o28.2).bind fun o30 => some (o30.1, o30.2))))))
set_option maxRecDepth 100000 in
set_option maxHeartbeats 4000000 in
theorem c_X7_root {l : Launch} {D : va_G} {cI : ClassId × ClassId} {A : Nat → Prop} {ad : Nat → Nat} {x1 x2 : Int32} {w : St} {o : Int32 × St} (hf : f_X7_root x1 x2 w = some o) : CTi l D cI A yX7_root cX7_root 3 (some .int) rm_X7_root [.ref (ad 0), .int x1, .int x2] ((wM ad cI) w) o.1 ((wM ad cI) o.2)   := by
  refine CTi.of (by decide +kernel) rfl (Nat.le_of_ble_eq_true rfl) ?_
  intro p e s m args below meth c X hr
  have X : gX p s m args meth c cX7_root 3 RX7 D cI := X
  show G _ _ _ _ _ _ _ _ _ _ _ _ _ _ _ _ _ 0 [some (.ref (ad 0)), some (.int x1), some (.int x2)] [] w
  unfold f_X7_root at hf
  refine g_iload_n X (i := 1) dX7_root_0 rfl rfl ?_
  obtain ⟨o1, h2, hf⟩ := hfb hf
  refine g_Si X (As := [.int x1]) (rest := []) (c_X7_isRoot (wf := (wM ad cI)) h2) dX7_root_1 ml_X7_74 yv_X7_isRoot rfl rfl ⟨Nat.le_of_ble_eq_true rfl, Nat.le_of_ble_eq_true rfl⟩ ⟨rfl, rfl⟩ (Nat.le_of_ble_eq_true rfl) ⟨Nat.le_of_ble_eq_true rfl, Nat.le_of_ble_eq_true rfl⟩ ?_
  refine g_if_eq X dX7_root_4 (tgt := 20) (by decide) hf (fun c3 hf => ?_) (fun c3 hf => ?_)
  · refine g_bipush X dX7_root_20 (v := (-11)) (by decide) ?_
    exact g_iret X hr dX7_root_22 hf
  · refine g_iload_n X (i := 2) dX7_root_7 rfl rfl ?_
    refine g_iconst X dX7_root_8 (v := (-1)) (by decide) ?_
    refine g_icmp_eq X dX7_root_9 (tgt := 23) (by decide) hf (fun c4 hf => ?_) (fun c4 hf => ?_)
    · refine g_iload_n X (i := 2) dX7_root_23 rfl rfl ?_
      refine g_if_lt X dX7_root_24 (tgt := 38) (by decide) hf (fun c5 hf => ?_) (fun c5 hf => ?_)
      · refine g_aload_n X (i := 0) dX7_root_38 rfl rfl ?_
        obtain ⟨o6, h7, hf⟩ := hfb hf
        refine g_Vv X (q0 := 0) (As := []) (rest := []) (c_X7_changes h7) dX7_root_39 ml_X7_81 yv_X7_changes rfl rfl rfl rfl ⟨Nat.le_of_ble_eq_true rfl, Nat.le_of_ble_eq_true rfl⟩ ⟨rfl, rfl⟩ (Nat.le_of_ble_eq_true rfl) ⟨Nat.le_of_ble_eq_true rfl, Nat.le_of_ble_eq_true rfl⟩ ?_
        refine g_aload_n X (i := 0) dX7_root_42 rfl rfl ?_
        refine g_iload_n X (i := 1) dX7_root_43 rfl rfl ?_
        refine g_iload_n X (i := 2) dX7_root_44 rfl rfl ?_
        obtain ⟨o8, h9, hf⟩ := hfb hf
        refine g_Vi X (q0 := 0) (As := [.int x1, .int x2]) (rest := []) (c_X7_writesRoot h9) dX7_root_45 ml_X7_84 yv_X7_writesRoot rfl rfl rfl rfl ⟨Nat.le_of_ble_eq_true rfl, Nat.le_of_ble_eq_true rfl⟩ ⟨rfl, rfl⟩ (Nat.le_of_ble_eq_true rfl) ⟨Nat.le_of_ble_eq_true rfl, Nat.le_of_ble_eq_true rfl⟩ ?_
        exact g_iret X hr dX7_root_48 hf
      · refine g_aload_n X (i := 0) dX7_root_27 rfl rfl ?_
        refine g_iload_n X (i := 2) dX7_root_28 rfl rfl ?_
        obtain ⟨o10, h11, hf⟩ := hfb hf
        refine g_Vi X (q0 := 0) (As := [.int x2]) (rest := []) (c_X7_isReached h11) dX7_root_29 ml_X7_90 yv_X7_isReached rfl rfl rfl rfl ⟨Nat.le_of_ble_eq_true rfl, Nat.le_of_ble_eq_true rfl⟩ ⟨rfl, rfl⟩ (Nat.le_of_ble_eq_true rfl) ⟨Nat.le_of_ble_eq_true rfl, Nat.le_of_ble_eq_true rfl⟩ ?_
        refine g_if_ne X dX7_root_32 (tgt := 38) (by decide) hf (fun c12 hf => ?_) (fun c12 hf => ?_)
        · refine g_bipush X dX7_root_35 (v := (-12)) (by decide) ?_
          exact g_iret X hr dX7_root_37 hf
        · refine g_aload_n X (i := 0) dX7_root_38 rfl rfl ?_
          obtain ⟨o13, h14, hf⟩ := hfb hf
          refine g_Vv X (q0 := 0) (As := []) (rest := []) (c_X7_changes h14) dX7_root_39 ml_X7_81 yv_X7_changes rfl rfl rfl rfl ⟨Nat.le_of_ble_eq_true rfl, Nat.le_of_ble_eq_true rfl⟩ ⟨rfl, rfl⟩ (Nat.le_of_ble_eq_true rfl) ⟨Nat.le_of_ble_eq_true rfl, Nat.le_of_ble_eq_true rfl⟩ ?_
          refine g_aload_n X (i := 0) dX7_root_42 rfl rfl ?_
          refine g_iload_n X (i := 1) dX7_root_43 rfl rfl ?_
          refine g_iload_n X (i := 2) dX7_root_44 rfl rfl ?_
          obtain ⟨o15, h16, hf⟩ := hfb hf
          refine g_Vi X (q0 := 0) (As := [.int x1, .int x2]) (rest := []) (c_X7_writesRoot h16) dX7_root_45 ml_X7_84 yv_X7_writesRoot rfl rfl rfl rfl ⟨Nat.le_of_ble_eq_true rfl, Nat.le_of_ble_eq_true rfl⟩ ⟨rfl, rfl⟩ (Nat.le_of_ble_eq_true rfl) ⟨Nat.le_of_ble_eq_true rfl, Nat.le_of_ble_eq_true rfl⟩ ?_
          exact g_iret X hr dX7_root_48 hf
    · refine g_aload_n X (i := 0) dX7_root_12 rfl rfl ?_
      refine g_iload_n X (i := 2) dX7_root_13 rfl rfl ?_
      obtain ⟨o17, h18, hf⟩ := hfb hf
      refine g_Vi X (q0 := 0) (As := [.int x2]) (rest := []) (c_X7_isObject h18) dX7_root_14 ml_X7_87 yv_X7_isObject rfl rfl rfl rfl ⟨Nat.le_of_ble_eq_true rfl, Nat.le_of_ble_eq_true rfl⟩ ⟨rfl, rfl⟩ (Nat.le_of_ble_eq_true rfl) ⟨Nat.le_of_ble_eq_true rfl, Nat.le_of_ble_eq_true rfl⟩ ?_
      refine g_if_ne X dX7_root_17 (tgt := 23) (by decide) hf (fun c19 hf => ?_) (fun c19 hf => ?_)
      · refine g_bipush X dX7_root_20 (v := (-11)) (by decide) ?_
        exact g_iret X hr dX7_root_22 hf
      · refine g_iload_n X (i := 2) dX7_root_23 rfl rfl ?_
        refine g_if_lt X dX7_root_24 (tgt := 38) (by decide) hf (fun c20 hf => ?_) (fun c20 hf => ?_)
        · refine g_aload_n X (i := 0) dX7_root_38 rfl rfl ?_
          obtain ⟨o21, h22, hf⟩ := hfb hf
          refine g_Vv X (q0 := 0) (As := []) (rest := []) (c_X7_changes h22) dX7_root_39 ml_X7_81 yv_X7_changes rfl rfl rfl rfl ⟨Nat.le_of_ble_eq_true rfl, Nat.le_of_ble_eq_true rfl⟩ ⟨rfl, rfl⟩ (Nat.le_of_ble_eq_true rfl) ⟨Nat.le_of_ble_eq_true rfl, Nat.le_of_ble_eq_true rfl⟩ ?_
          refine g_aload_n X (i := 0) dX7_root_42 rfl rfl ?_
          refine g_iload_n X (i := 1) dX7_root_43 rfl rfl ?_
          refine g_iload_n X (i := 2) dX7_root_44 rfl rfl ?_
          obtain ⟨o23, h24, hf⟩ := hfb hf
          refine g_Vi X (q0 := 0) (As := [.int x1, .int x2]) (rest := []) (c_X7_writesRoot h24) dX7_root_45 ml_X7_84 yv_X7_writesRoot rfl rfl rfl rfl ⟨Nat.le_of_ble_eq_true rfl, Nat.le_of_ble_eq_true rfl⟩ ⟨rfl, rfl⟩ (Nat.le_of_ble_eq_true rfl) ⟨Nat.le_of_ble_eq_true rfl, Nat.le_of_ble_eq_true rfl⟩ ?_
          exact g_iret X hr dX7_root_48 hf
        · refine g_aload_n X (i := 0) dX7_root_27 rfl rfl ?_
          refine g_iload_n X (i := 2) dX7_root_28 rfl rfl ?_
          obtain ⟨o25, h26, hf⟩ := hfb hf
          refine g_Vi X (q0 := 0) (As := [.int x2]) (rest := []) (c_X7_isReached h26) dX7_root_29 ml_X7_90 yv_X7_isReached rfl rfl rfl rfl ⟨Nat.le_of_ble_eq_true rfl, Nat.le_of_ble_eq_true rfl⟩ ⟨rfl, rfl⟩ (Nat.le_of_ble_eq_true rfl) ⟨Nat.le_of_ble_eq_true rfl, Nat.le_of_ble_eq_true rfl⟩ ?_
          refine g_if_ne X dX7_root_32 (tgt := 38) (by decide) hf (fun c27 hf => ?_) (fun c27 hf => ?_)
          · refine g_bipush X dX7_root_35 (v := (-12)) (by decide) ?_
            exact g_iret X hr dX7_root_37 hf
          · refine g_aload_n X (i := 0) dX7_root_38 rfl rfl ?_
            obtain ⟨o28, h29, hf⟩ := hfb hf
            refine g_Vv X (q0 := 0) (As := []) (rest := []) (c_X7_changes h29) dX7_root_39 ml_X7_81 yv_X7_changes rfl rfl rfl rfl ⟨Nat.le_of_ble_eq_true rfl, Nat.le_of_ble_eq_true rfl⟩ ⟨rfl, rfl⟩ (Nat.le_of_ble_eq_true rfl) ⟨Nat.le_of_ble_eq_true rfl, Nat.le_of_ble_eq_true rfl⟩ ?_
            refine g_aload_n X (i := 0) dX7_root_42 rfl rfl ?_
            refine g_iload_n X (i := 1) dX7_root_43 rfl rfl ?_
            refine g_iload_n X (i := 2) dX7_root_44 rfl rfl ?_
            obtain ⟨o30, h31, hf⟩ := hfb hf
            refine g_Vi X (q0 := 0) (As := [.int x1, .int x2]) (rest := []) (c_X7_writesRoot h31) dX7_root_45 ml_X7_84 yv_X7_writesRoot rfl rfl rfl rfl ⟨Nat.le_of_ble_eq_true rfl, Nat.le_of_ble_eq_true rfl⟩ ⟨rfl, rfl⟩ (Nat.le_of_ble_eq_true rfl) ⟨Nat.le_of_ble_eq_true rfl, Nat.le_of_ble_eq_true rfl⟩ ?_
            exact g_iret X hr dX7_root_48 hf
def f_X7_step_L42 : Nat → Int32 → Int32 → Int32 → St → Option (St)
  | 0, _, _, _, _ => none
  | n + 1, x1, x2, x3, w => (if x3 < x1 then if ib 226 235 then (if (0 : Int32) < (w.2 0 (226 : Int32).toNatClampNeg) then (f_X7_steps w).bind fun o12 => f_X7_step_L42 n x1 x2 (x3 + 1) o12.2 else some (w)) else none else some (w))
def f_X7_step (x1 : Int32) (w : St) : Option (Int32 × St) := (f_X7_in x1 1 99 w).bind fun o1 => (if o1.1 = 0 then some ((-11), o1.2) else if ib 226 235 then (if (o1.2.2 0 (226 : Int32).toNatClampNeg) = 0 then some ((-12), o1.2) else (f_X7_changes o1.2).bind fun o6 => if ib 230 235 then (f_X7_step_L42 BIG x1 (o6.2.2 0 (230 : Int32).toNatClampNeg) 0 o6.2).bind fun o14 => if ib 230 235 then some ((o14.2 0 (230 : Int32).toNatClampNeg) - (o6.2.2 0 (230 : Int32).toNatClampNeg), o14) else none else none) else none)
set_option maxRecDepth 100000 in
set_option maxHeartbeats 4000000 in
theorem gl_X7_step_L42 {p : Program} {l : Launch} {e : Env} {s : State} {m : MethodId} {args : Array Value} {below : List Frame} {meth : Method} {c : Code} {D : va_G} {A : Nat → Prop} {cI : ClassId × ClassId} {ad : Nat → Nat} {Q : State → Prop} {o : St} (X : gX p s m args meth c cX7_step 4 RX7 D cI) (n : Nat) : ∀ {x1 x2 x3 : Int32} {w : St}, f_X7_step_L42 n x1 x2 x3 w = some o → G p l e rm_X7_step s m args below meth c D A 4 Q (wM ad cI) 0 0 68 [some (.ref (ad 0)), none, some (.int x2), none] [] o → G p l e rm_X7_step s m args below meth c D A 4 Q (wM ad cI) 0 0 42 [some (.ref (ad 0)), some (.int x1), some (.int x2), some (.int x3)] [] w := by
  induction n with
  | zero => intro x1 x2 x3 w hf; cases hf
  | succ n ih =>
    intro x1 x2 x3 w hf k
    rw [f_X7_step_L42] at hf
    refine g_iload_n X (i := 3) dX7_step_42 rfl rfl ?_
    refine g_iload_n X (i := 1) dX7_step_43 rfl rfl ?_
    refine g_icmp_ge X dX7_step_44 (tgt := 68) (by decide) hf (fun c9 hf => ?_) (fun c9 hf => ?_)
    · refine g_aload_n X (i := 0) dX7_step_47 rfl rfl ?_
      refine g_get X (q0 := 0) (v := .ref (ad 1)) 0 dX7_step_48 gC_X7 rfl rfl (by decide) fl_X7_7 rfl rfl ?_
      refine g_sipush X dX7_step_51 (v := 226) (by decide) ?_
      obtain ⟨hb10, hf⟩ := hfg hf
      refine g_iald X (q0 := 1) (f := w.2 0) dX7_step_54 rfl hb10 ?_
      refine g_if_le X dX7_step_55 (tgt := 68) (by decide) hf (fun c11 hf => ?_) (fun c11 hf => ?_)
      · refine g_aload_n X (i := 0) dX7_step_58 rfl rfl ?_
        obtain ⟨o12, h13, hf⟩ := hfb hf
        refine g_Vv X (q0 := 0) (As := []) (rest := []) (c_X7_steps h13) dX7_step_59 ml_X7_117 yv_X7_steps rfl rfl rfl rfl ⟨Nat.le_of_ble_eq_true rfl, Nat.le_of_ble_eq_true rfl⟩ ⟨rfl, rfl⟩ (Nat.le_of_ble_eq_true rfl) ⟨Nat.le_of_ble_eq_true rfl, Nat.le_of_ble_eq_true rfl⟩ ?_
        refine g_iinc X (i := 3) (v := 1) dX7_step_62 rfl (by decide) (by decide) rfl ?_
        refine g_goto X dX7_step_65 (tgt := 42) (by decide) ?_
        exact ih hf k
      · obtain rfl := Option.some.inj hf
        refine g_sub (losub (lo' := [some (.ref (ad 0)), none, some (.int x2), none]) ⟨rfl, rfl, trivial⟩) ?_
        exact k
    · obtain rfl := Option.some.inj hf
      refine g_sub (losub (lo' := [some (.ref (ad 0)), none, some (.int x2), none]) ⟨rfl, rfl, trivial⟩) ?_
      exact k
set_option maxRecDepth 100000 in
set_option maxHeartbeats 4000000 in
theorem c_X7_step {l : Launch} {D : va_G} {cI : ClassId × ClassId} {A : Nat → Prop} {ad : Nat → Nat} {x1 : Int32} {w : St} {o : Int32 × St} (hf : f_X7_step x1 w = some o) : CTi l D cI A yX7_step cX7_step 4 (some .int) rm_X7_step [.ref (ad 0), .int x1] ((wM ad cI) w) o.1 ((wM ad cI) o.2)   := by
  refine CTi.of (by decide +kernel) rfl (Nat.le_of_ble_eq_true rfl) ?_
  intro p e s m args below meth c X hr
  have X : gX p s m args meth c cX7_step 4 RX7 D cI := X
  show G _ _ _ _ _ _ _ _ _ _ _ _ _ _ _ _ _ 0 [some (.ref (ad 0)), some (.int x1), none, none] [] w
  unfold f_X7_step at hf
  refine g_iload_n X (i := 1) dX7_step_0 rfl rfl ?_
  refine g_iconst X dX7_step_1 (v := 1) (by decide) ?_
  refine g_bipush X dX7_step_2 (v := 99) (by decide) ?_
  obtain ⟨o1, h2, hf⟩ := hfb hf
  refine g_Si X (As := [.int x1, .int 1, .int 99]) (rest := []) (c_X7_in (wf := (wM ad cI)) h2) dX7_step_4 ml_X7_39 yv_X7_in rfl rfl ⟨Nat.le_of_ble_eq_true rfl, Nat.le_of_ble_eq_true rfl⟩ ⟨rfl, rfl⟩ (Nat.le_of_ble_eq_true rfl) ⟨Nat.le_of_ble_eq_true rfl, Nat.le_of_ble_eq_true rfl⟩ ?_
  refine g_if_ne X dX7_step_7 (tgt := 13) (by decide) hf (fun c3 hf => ?_) (fun c3 hf => ?_)
  · refine g_bipush X dX7_step_10 (v := (-11)) (by decide) ?_
    exact g_iret X hr dX7_step_12 hf
  · refine g_aload_n X (i := 0) dX7_step_13 rfl rfl ?_
    refine g_get X (q0 := 0) (v := .ref (ad 1)) 0 dX7_step_14 gC_X7 rfl rfl (by decide) fl_X7_7 rfl rfl ?_
    refine g_sipush X dX7_step_17 (v := 226) (by decide) ?_
    obtain ⟨hb4, hf⟩ := hfg hf
    refine g_iald X (q0 := 1) (f := o1.2.2 0) dX7_step_20 rfl hb4 ?_
    refine g_if_ne X dX7_step_21 (tgt := 27) (by decide) hf (fun c5 hf => ?_) (fun c5 hf => ?_)
    · refine g_bipush X dX7_step_24 (v := (-12)) (by decide) ?_
      exact g_iret X hr dX7_step_26 hf
    · refine g_aload_n X (i := 0) dX7_step_27 rfl rfl ?_
      obtain ⟨o6, h7, hf⟩ := hfb hf
      refine g_Vv X (q0 := 0) (As := []) (rest := []) (c_X7_changes h7) dX7_step_28 ml_X7_81 yv_X7_changes rfl rfl rfl rfl ⟨Nat.le_of_ble_eq_true rfl, Nat.le_of_ble_eq_true rfl⟩ ⟨rfl, rfl⟩ (Nat.le_of_ble_eq_true rfl) ⟨Nat.le_of_ble_eq_true rfl, Nat.le_of_ble_eq_true rfl⟩ ?_
      refine g_aload_n X (i := 0) dX7_step_31 rfl rfl ?_
      refine g_get X (q0 := 0) (v := .ref (ad 1)) 0 dX7_step_32 gC_X7 rfl rfl (by decide) fl_X7_7 rfl rfl ?_
      refine g_sipush X dX7_step_35 (v := 230) (by decide) ?_
      obtain ⟨hb8, hf⟩ := hfg hf
      refine g_iald X (q0 := 1) (f := o6.2.2 0) dX7_step_38 rfl hb8 ?_
      refine g_istore_n X (i := 2) dX7_step_39 rfl (by decide) rfl ?_
      refine g_iconst X dX7_step_40 (v := 0) (by decide) ?_
      refine g_istore_n X (i := 3) dX7_step_41 rfl (by decide) rfl ?_
      obtain ⟨o14, h15, hf⟩ := hfb hf
      refine gl_X7_step_L42 X BIG h15 ?_
      refine g_aload_n X (i := 0) dX7_step_68 rfl rfl ?_
      refine g_get X (q0 := 0) (v := .ref (ad 1)) 0 dX7_step_69 gC_X7 rfl rfl (by decide) fl_X7_7 rfl rfl ?_
      refine g_sipush X dX7_step_72 (v := 230) (by decide) ?_
      obtain ⟨hb16, hf⟩ := hfg hf
      refine g_iald X (q0 := 1) (f := o14.2 0) dX7_step_75 rfl hb16 ?_
      refine g_iload_n X (i := 2) dX7_step_76 rfl rfl ?_
      refine g_isub X dX7_step_77 ?_
      exact g_iret X hr dX7_step_78 hf
def f_X7_calls (w : St) : Option (Int32 × St) := (if (w.1 7) = 98 then (f_X7_begin w).bind fun o2 => some (o2.1, o2.2) else (if (w.1 7) = 110 then if ib 0 3 then (f_X7_make (w.2 6 (0 : Int32).toNatClampNeg) w).bind fun o6 => some (o6.1, o6.2) else none else (if (w.1 7) = 114 then if ib 0 3 then if ib 1 3 then (f_X7_root (w.2 6 (0 : Int32).toNatClampNeg) (w.2 6 (1 : Int32).toNatClampNeg) w).bind fun o11 => some (o11.1, o11.2) else none else none else (if (w.1 7) = 115 then if ib 0 3 then (f_X7_step (w.2 6 (0 : Int32).toNatClampNeg) w).bind fun o15 => some (o15.1, o15.2) else none else if ib 0 3 then if ib 1 3 then if ib 2 3 then (f_X7_field (w.2 6 (0 : Int32).toNatClampNeg) (w.2 6 (1 : Int32).toNatClampNeg) (w.2 6 (2 : Int32).toNatClampNeg) w).bind fun o20 => some (o20.1, o20.2) else none else none else none))))
set_option maxRecDepth 100000 in
set_option maxHeartbeats 4000000 in
theorem c_X7_calls {l : Launch} {D : va_G} {cI : ClassId × ClassId} {A : Nat → Prop} {ad : Nat → Nat} {w : St} {o : Int32 × St} (hf : f_X7_calls w = some o) : CTi l D cI A yX7_calls cX7_calls 1 (some .int) rm_X7_calls [.ref (ad 0)] ((wM ad cI) w) o.1 ((wM ad cI) o.2)   := by
  refine CTi.of (by decide +kernel) rfl (Nat.le_of_ble_eq_true rfl) ?_
  intro p e s m args below meth c X hr
  have X : gX p s m args meth c cX7_calls 1 RX7 D cI := X
  show G _ _ _ _ _ _ _ _ _ _ _ _ _ _ _ _ _ 0 [some (.ref (ad 0))] [] w
  unfold f_X7_calls at hf
  refine g_aload_n X (i := 0) dX7_calls_0 rfl rfl ?_
  refine g_get X (q0 := 0) (v := .int (w.1 7)) 13 dX7_calls_1 gC_X7 rfl rfl (by decide) fl_X7_158 rfl rfl ?_
  rcases hfi (q := (w.1 7) = 98) hf with ⟨c1, hf⟩ | ⟨c1, hf⟩
  · refine g_lookup X (off := 44) dX7_calls_4 rfl (by first | (rw [c1]; done) | (rw [c1]; rfl)) (tgt := 48) (by decide) ?_
    refine g_aload_n X (i := 0) dX7_calls_48 rfl rfl ?_
    obtain ⟨o2, h3, hf⟩ := hfb hf
    refine g_Vi X (q0 := 0) (As := []) (rest := []) (c_X7_begin h3) dX7_calls_49 ml_X7_164 yv_X7_begin rfl rfl rfl rfl ⟨Nat.le_of_ble_eq_true rfl, Nat.le_of_ble_eq_true rfl⟩ ⟨rfl, rfl⟩ (Nat.le_of_ble_eq_true rfl) ⟨Nat.le_of_ble_eq_true rfl, Nat.le_of_ble_eq_true rfl⟩ ?_
    exact g_iret X hr dX7_calls_52 hf
  rcases hfi (q := (w.1 7) = 110) hf with ⟨c4, hf⟩ | ⟨c4, hf⟩
  · refine g_lookup X (off := 49) dX7_calls_4 rfl (by first | (rw [c4]; done) | (rw [c4]; rfl)) (tgt := 53) (by decide) ?_
    refine g_aload_n X (i := 0) dX7_calls_53 rfl rfl ?_
    refine g_aload_n X (i := 0) dX7_calls_54 rfl rfl ?_
    refine g_get X (q0 := 0) (v := .ref (ad 7)) 14 dX7_calls_55 gC_X7 rfl rfl (by decide) fl_X7_28 rfl rfl ?_
    refine g_iconst X dX7_calls_58 (v := 0) (by decide) ?_
    obtain ⟨hb5, hf⟩ := hfg hf
    refine g_iald X (q0 := 7) (f := w.2 6) dX7_calls_59 rfl hb5 ?_
    obtain ⟨o6, h7, hf⟩ := hfb hf
    refine g_Vi X (q0 := 0) (As := [.int (w.2 6 (0 : Int32).toNatClampNeg)]) (rest := []) (c_X7_make h7) dX7_calls_60 ml_X7_167 yv_X7_make rfl rfl rfl rfl ⟨Nat.le_of_ble_eq_true rfl, Nat.le_of_ble_eq_true rfl⟩ ⟨rfl, rfl⟩ (Nat.le_of_ble_eq_true rfl) ⟨Nat.le_of_ble_eq_true rfl, Nat.le_of_ble_eq_true rfl⟩ ?_
    exact g_iret X hr dX7_calls_63 hf
  rcases hfi (q := (w.1 7) = 114) hf with ⟨c8, hf⟩ | ⟨c8, hf⟩
  · refine g_lookup X (off := 71) dX7_calls_4 rfl (by first | (rw [c8]; done) | (rw [c8]; rfl)) (tgt := 75) (by decide) ?_
    refine g_aload_n X (i := 0) dX7_calls_75 rfl rfl ?_
    refine g_aload_n X (i := 0) dX7_calls_76 rfl rfl ?_
    refine g_get X (q0 := 0) (v := .ref (ad 7)) 14 dX7_calls_77 gC_X7 rfl rfl (by decide) fl_X7_28 rfl rfl ?_
    refine g_iconst X dX7_calls_80 (v := 0) (by decide) ?_
    obtain ⟨hb9, hf⟩ := hfg hf
    refine g_iald X (q0 := 7) (f := w.2 6) dX7_calls_81 rfl hb9 ?_
    refine g_aload_n X (i := 0) dX7_calls_82 rfl rfl ?_
    refine g_get X (q0 := 0) (v := .ref (ad 7)) 14 dX7_calls_83 gC_X7 rfl rfl (by decide) fl_X7_28 rfl rfl ?_
    refine g_iconst X dX7_calls_86 (v := 1) (by decide) ?_
    obtain ⟨hb10, hf⟩ := hfg hf
    refine g_iald X (q0 := 7) (f := w.2 6) dX7_calls_87 rfl hb10 ?_
    obtain ⟨o11, h12, hf⟩ := hfb hf
    refine g_Vi X (q0 := 0) (As := [.int (w.2 6 (0 : Int32).toNatClampNeg), .int (w.2 6 (1 : Int32).toNatClampNeg)]) (rest := []) (c_X7_root h12) dX7_calls_88 ml_X7_173 yv_X7_root rfl rfl rfl rfl ⟨Nat.le_of_ble_eq_true rfl, Nat.le_of_ble_eq_true rfl⟩ ⟨rfl, rfl⟩ (Nat.le_of_ble_eq_true rfl) ⟨Nat.le_of_ble_eq_true rfl, Nat.le_of_ble_eq_true rfl⟩ ?_
    exact g_iret X hr dX7_calls_91 hf
  rcases hfi (q := (w.1 7) = 115) hf with ⟨c13, hf⟩ | ⟨c13, hf⟩
  · refine g_lookup X (off := 60) dX7_calls_4 rfl (by first | (rw [c13]; done) | (rw [c13]; rfl)) (tgt := 64) (by decide) ?_
    refine g_aload_n X (i := 0) dX7_calls_64 rfl rfl ?_
    refine g_aload_n X (i := 0) dX7_calls_65 rfl rfl ?_
    refine g_get X (q0 := 0) (v := .ref (ad 7)) 14 dX7_calls_66 gC_X7 rfl rfl (by decide) fl_X7_28 rfl rfl ?_
    refine g_iconst X dX7_calls_69 (v := 0) (by decide) ?_
    obtain ⟨hb14, hf⟩ := hfg hf
    refine g_iald X (q0 := 7) (f := w.2 6) dX7_calls_70 rfl hb14 ?_
    obtain ⟨o15, h16, hf⟩ := hfb hf
    refine g_Vi X (q0 := 0) (As := [.int (w.2 6 (0 : Int32).toNatClampNeg)]) (rest := []) (c_X7_step h16) dX7_calls_71 ml_X7_170 yv_X7_step rfl rfl rfl rfl ⟨Nat.le_of_ble_eq_true rfl, Nat.le_of_ble_eq_true rfl⟩ ⟨rfl, rfl⟩ (Nat.le_of_ble_eq_true rfl) ⟨Nat.le_of_ble_eq_true rfl, Nat.le_of_ble_eq_true rfl⟩ ?_
    exact g_iret X hr dX7_calls_74 hf
  refine g_lookup X (off := 88) dX7_calls_4 rfl (show Op.lookupswitch.offset [(98, 44), (110, 49), (114, 71), (115, 60)] (88) ((w.1 7)).toInt = 88 by first | (rw [lv_osw c1 (by decide), lv_osw c4 (by decide), lv_osw c8 (by decide), lv_osw c13 (by decide)]; done) | (rw [lv_osw c1 (by decide), lv_osw c4 (by decide), lv_osw c8 (by decide), lv_osw c13 (by decide)]; rfl)) (tgt := 92) (by decide) ?_
  refine g_aload_n X (i := 0) dX7_calls_92 rfl rfl ?_
  refine g_aload_n X (i := 0) dX7_calls_93 rfl rfl ?_
  refine g_get X (q0 := 0) (v := .ref (ad 7)) 14 dX7_calls_94 gC_X7 rfl rfl (by decide) fl_X7_28 rfl rfl ?_
  refine g_iconst X dX7_calls_97 (v := 0) (by decide) ?_
  obtain ⟨hb17, hf⟩ := hfg hf
  refine g_iald X (q0 := 7) (f := w.2 6) dX7_calls_98 rfl hb17 ?_
  refine g_aload_n X (i := 0) dX7_calls_99 rfl rfl ?_
  refine g_get X (q0 := 0) (v := .ref (ad 7)) 14 dX7_calls_100 gC_X7 rfl rfl (by decide) fl_X7_28 rfl rfl ?_
  refine g_iconst X dX7_calls_103 (v := 1) (by decide) ?_
  obtain ⟨hb18, hf⟩ := hfg hf
  refine g_iald X (q0 := 7) (f := w.2 6) dX7_calls_104 rfl hb18 ?_
  refine g_aload_n X (i := 0) dX7_calls_105 rfl rfl ?_
  refine g_get X (q0 := 0) (v := .ref (ad 7)) 14 dX7_calls_106 gC_X7 rfl rfl (by decide) fl_X7_28 rfl rfl ?_
  refine g_iconst X dX7_calls_109 (v := 2) (by decide) ?_
  obtain ⟨hb19, hf⟩ := hfg hf
  refine g_iald X (q0 := 7) (f := w.2 6) dX7_calls_110 rfl hb19 ?_
  obtain ⟨o20, h21, hf⟩ := hfb hf
  refine g_Vi X (q0 := 0) (As := [.int (w.2 6 (0 : Int32).toNatClampNeg), .int (w.2 6 (1 : Int32).toNatClampNeg), .int (w.2 6 (2 : Int32).toNatClampNeg)]) (rest := []) (c_X7_field h21) dX7_calls_111 ml_X7_176 yv_X7_field rfl rfl rfl rfl ⟨Nat.le_of_ble_eq_true rfl, Nat.le_of_ble_eq_true rfl⟩ ⟨rfl, rfl⟩ (Nat.le_of_ble_eq_true rfl) ⟨Nat.le_of_ble_eq_true rfl, Nat.le_of_ble_eq_true rfl⟩ ?_
  exact g_iret X hr dX7_calls_114 hf
def f_X7_clearText (w : St) : Option (Int32 × St) := some (w.1 3, sR w 3 0)
set_option maxRecDepth 100000 in
set_option maxHeartbeats 4000000 in
theorem c_X7_clearText {l : Launch} {D : va_G} {cI : ClassId × ClassId} {A : Nat → Prop} {ad : Nat → Nat} {w : St} {o : Int32 × St} (hf : f_X7_clearText w = some o) : CTi l D cI A yX7_clearText cX7_clearText 2 (some .int) rm_X7_clearText [.ref (ad 0)] ((wM ad cI) w) o.1 ((wM ad cI) o.2)   := by
  refine CTi.of (by decide +kernel) rfl (Nat.le_of_ble_eq_true rfl) ?_
  intro p e s m args below meth c X hr
  have X : gX p s m args meth c cX7_clearText 2 RX7 D cI := X
  show G _ _ _ _ _ _ _ _ _ _ _ _ _ _ _ _ _ 0 [some (.ref (ad 0)), none] [] w
  unfold f_X7_clearText at hf
  refine g_aload_n X (i := 0) dX7_clearText_0 rfl rfl ?_
  refine g_get X (q0 := 0) (v := .int (w.1 3)) 9 dX7_clearText_1 gC_X7 rfl rfl (by decide) fl_X7_132 rfl rfl ?_
  refine g_istore_n X (i := 1) dX7_clearText_4 rfl (by decide) rfl ?_
  refine g_aload_n X (i := 0) dX7_clearText_5 rfl rfl ?_
  refine g_iconst X dX7_clearText_6 (v := 0) (by decide) ?_
  refine g_put X (q0 := 0) 9 dX7_clearText_7 gC_X7 rfl rfl (by decide) fl_X7_132 rfl rfl rfl rfl (Nat.le_of_ble_eq_true rfl) (pwM_3 ad cI _ _) ?_
  refine g_iload_n X (i := 1) dX7_clearText_10 rfl rfl ?_
  exact g_iret X hr dX7_clearText_11 hf
def f_X7_those_L5 : Nat → Int32 → Int32 → Int32 → Int32 → St → Option (Int32 × St)
  | 0, _, _, _, _, _ => none
  | n + 1, x1, x2, x3, x4, w => (if x4 < 24 then (f_X7_isObject x4 w).bind fun o2 => (if o2.1 = 0 then f_X7_those_L5 n x1 x2 (x3 ||| 0) (x4 + 1) o2.2 else (f_X7_of x4 x1 o2.2).bind fun o5 => (if o5.1 = x2 then f_X7_those_L5 n x1 x2 (x3 ||| (1 <<< (x4 &&& 31))) (x4 + 1) o5.2 else f_X7_those_L5 n x1 x2 (x3 ||| 0) (x4 + 1) o5.2)) else some (x3, w))
def f_X7_those (x1 x2 : Int32) (w : St) : Option (Int32 × St) := (f_X7_those_L5 BIG x1 x2 0 0 w).bind fun o8 => some (o8.1, o8.2)
set_option maxRecDepth 100000 in
set_option maxHeartbeats 4000000 in
theorem gl_X7_those_L5 {p : Program} {l : Launch} {e : Env} {s : State} {m : MethodId} {args : Array Value} {below : List Frame} {meth : Method} {c : Code} {D : va_G} {A : Nat → Prop} {cI : ClassId × ClassId} {ad : Nat → Nat} {Q : State → Prop} {o : Int32 × St} (X : gX p s m args meth c cX7_those 5 RX7 D cI) (n : Nat) : ∀ {x1 x2 x3 x4 : Int32} {w : St}, f_X7_those_L5 n x1 x2 x3 x4 w = some o → G p l e rm_X7_those s m args below meth c D A 5 Q (wM ad cI) 0 0 49 [none, none, none, some (.int o.1), none] [] o.2 → G p l e rm_X7_those s m args below meth c D A 5 Q (wM ad cI) 0 0 5 [some (.ref (ad 0)), some (.int x1), some (.int x2), some (.int x3), some (.int x4)] [] w := by
  induction n with
  | zero => intro x1 x2 x3 x4 w hf; cases hf
  | succ n ih =>
    intro x1 x2 x3 x4 w hf k
    rw [f_X7_those_L5] at hf
    refine g_iload X dX7_those_5 rfl ?_
    refine g_bipush X dX7_those_7 (v := 24) (by decide) ?_
    refine g_icmp_ge X dX7_those_9 (tgt := 49) (by decide) hf (fun c1 hf => ?_) (fun c1 hf => ?_)
    · refine g_iload_n X (i := 3) dX7_those_12 rfl rfl ?_
      refine g_aload_n X (i := 0) dX7_those_13 rfl rfl ?_
      refine g_iload X dX7_those_14 rfl ?_
      obtain ⟨o2, h3, hf⟩ := hfb hf
      refine g_Vi X (q0 := 0) (As := [.int x4]) (rest := [.int x3]) (c_X7_isObject h3) dX7_those_16 ml_X7_87 yv_X7_isObject rfl rfl rfl rfl ⟨Nat.le_of_ble_eq_true rfl, Nat.le_of_ble_eq_true rfl⟩ ⟨rfl, rfl⟩ (Nat.le_of_ble_eq_true rfl) ⟨Nat.le_of_ble_eq_true rfl, Nat.le_of_ble_eq_true rfl⟩ ?_
      refine g_if_eq X dX7_those_19 (tgt := 40) (by decide) hf (fun c4 hf => ?_) (fun c4 hf => ?_)
      · refine g_iconst X dX7_those_40 (v := 0) (by decide) ?_
        refine g_ior X dX7_those_41 ?_
        refine g_istore_n X (i := 3) dX7_those_42 rfl (by decide) rfl ?_
        refine g_iinc X (i := 4) (v := 1) dX7_those_43 rfl (by decide) (by decide) rfl ?_
        refine g_goto X dX7_those_46 (tgt := 5) (by decide) ?_
        exact ih hf k
      · refine g_aload_n X (i := 0) dX7_those_22 rfl rfl ?_
        refine g_iload X dX7_those_23 rfl ?_
        refine g_iload_n X (i := 1) dX7_those_25 rfl rfl ?_
        obtain ⟨o5, h6, hf⟩ := hfb hf
        refine g_Vi X (q0 := 0) (As := [.int x4, .int x1]) (rest := [.int x3]) (c_X7_of h6) dX7_those_26 ml_X7_43 yv_X7_of rfl rfl rfl rfl ⟨Nat.le_of_ble_eq_true rfl, Nat.le_of_ble_eq_true rfl⟩ ⟨rfl, rfl⟩ (Nat.le_of_ble_eq_true rfl) ⟨Nat.le_of_ble_eq_true rfl, Nat.le_of_ble_eq_true rfl⟩ ?_
        refine g_iload_n X (i := 2) dX7_those_29 rfl rfl ?_
        refine g_icmp_ne X dX7_those_30 (tgt := 40) (by decide) hf (fun c7 hf => ?_) (fun c7 hf => ?_)
        · refine g_iconst X dX7_those_33 (v := 1) (by decide) ?_
          refine g_iload X dX7_those_34 rfl ?_
          refine g_ishl X dX7_those_36 ?_
          refine g_goto X dX7_those_37 (tgt := 41) (by decide) ?_
          refine g_ior X dX7_those_41 ?_
          refine g_istore_n X (i := 3) dX7_those_42 rfl (by decide) rfl ?_
          refine g_iinc X (i := 4) (v := 1) dX7_those_43 rfl (by decide) (by decide) rfl ?_
          refine g_goto X dX7_those_46 (tgt := 5) (by decide) ?_
          exact ih hf k
        · refine g_iconst X dX7_those_40 (v := 0) (by decide) ?_
          refine g_ior X dX7_those_41 ?_
          refine g_istore_n X (i := 3) dX7_those_42 rfl (by decide) rfl ?_
          refine g_iinc X (i := 4) (v := 1) dX7_those_43 rfl (by decide) (by decide) rfl ?_
          refine g_goto X dX7_those_46 (tgt := 5) (by decide) ?_
          exact ih hf k
    · obtain rfl := Option.some.inj hf
      refine g_sub (losub (lo' := [none, none, none, some (.int x3), none]) ⟨rfl, trivial⟩) ?_
      exact k
set_option maxRecDepth 100000 in
set_option maxHeartbeats 4000000 in
theorem c_X7_those {l : Launch} {D : va_G} {cI : ClassId × ClassId} {A : Nat → Prop} {ad : Nat → Nat} {x1 x2 : Int32} {w : St} {o : Int32 × St} (hf : f_X7_those x1 x2 w = some o) : CTi l D cI A yX7_those cX7_those 5 (some .int) rm_X7_those [.ref (ad 0), .int x1, .int x2] ((wM ad cI) w) o.1 ((wM ad cI) o.2)   := by
  refine CTi.of (by decide +kernel) rfl (Nat.le_of_ble_eq_true rfl) ?_
  intro p e s m args below meth c X hr
  have X : gX p s m args meth c cX7_those 5 RX7 D cI := X
  show G _ _ _ _ _ _ _ _ _ _ _ _ _ _ _ _ _ 0 [some (.ref (ad 0)), some (.int x1), some (.int x2), none, none] [] w
  unfold f_X7_those at hf
  refine g_iconst X dX7_those_0 (v := 0) (by decide) ?_
  refine g_istore_n X (i := 3) dX7_those_1 rfl (by decide) rfl ?_
  refine g_iconst X dX7_those_2 (v := 0) (by decide) ?_
  refine g_istore X dX7_those_3 (by decide) rfl ?_
  obtain ⟨o8, h9, hf⟩ := hfb hf
  refine gl_X7_those_L5 X BIG h9 ?_
  refine g_iload_n X (i := 3) dX7_those_49 rfl rfl ?_
  exact g_iret X hr dX7_those_50 hf
def f_X7_count (x1 : Int32) (w : St) : Option (Int32 × St) := (if x1 = 0 then (f_X7_those 0 1 w).bind fun o2 => (f_X7_ones o2.1 o2.2).bind fun o4 => some (o4.1, o4.2) else (if x1 = 1 then if ib 226 235 then some (w.2 0 (226 : Int32).toNatClampNeg, w) else none else (if x1 = 2 then if ib ((228 + x1) - 2) 235 then some (w.2 0 ((228 + x1) - 2).toNatClampNeg, w) else none else (if x1 = 3 then if ib ((228 + x1) - 2) 235 then some (w.2 0 ((228 + x1) - 2).toNatClampNeg, w) else none else (if x1 = 4 then if ib ((228 + x1) - 2) 235 then some (w.2 0 ((228 + x1) - 2).toNatClampNeg, w) else none else (if x1 = 5 then if ib ((228 + x1) - 2) 235 then some (w.2 0 ((228 + x1) - 2).toNatClampNeg, w) else none else (if x1 = 6 then if ib 193 235 then some (w.2 0 (193 : Int32).toNatClampNeg, w) else none else (if x1 = 7 then if ib 226 235 then (if (w.2 0 (226 : Int32).toNatClampNeg) = 3 then if ib 227 235 then some (w.2 0 (227 : Int32).toNatClampNeg, w) else none else some ((-14), w)) else none else (if x1 = 8 then if ib 228 235 then (if (w.2 0 (228 : Int32).toNatClampNeg) = 0 then some ((-14), w) else if ib 232 235 then some (w.2 0 (232 : Int32).toNatClampNeg, w) else none) else none else (if x1 = 9 then if ib 234 235 then some (w.2 0 (234 : Int32).toNatClampNeg, w) else none else (if x1 = 10 then some (w.1 1, w) else (if x1 = 11 then some (w.1 3, w) else (if x1 = 12 then (if (w.1 0) = 0 then some (0, w) else some (1, w)) else some ((-11), w))))))))))))))
set_option maxRecDepth 100000 in
set_option maxHeartbeats 4000000 in
theorem c_X7_count {l : Launch} {D : va_G} {cI : ClassId × ClassId} {A : Nat → Prop} {ad : Nat → Nat} {x1 : Int32} {w : St} {o : Int32 × St} (hf : f_X7_count x1 w = some o) : CTi l D cI A yX7_count cX7_count 2 (some .int) rm_X7_count [.ref (ad 0), .int x1] ((wM ad cI) w) o.1 ((wM ad cI) o.2)   := by
  refine CTi.of (by decide +kernel) rfl (Nat.le_of_ble_eq_true rfl) ?_
  intro p e s m args below meth c X hr
  have X : gX p s m args meth c cX7_count 2 RX7 D cI := X
  show G _ _ _ _ _ _ _ _ _ _ _ _ _ _ _ _ _ 0 [some (.ref (ad 0)), some (.int x1)] [] w
  unfold f_X7_count at hf
  refine g_iload_n X (i := 1) dX7_count_0 rfl rfl ?_
  rcases hfi (q := x1 = 0) hf with ⟨c1, hf⟩ | ⟨c1, hf⟩
  · refine g_tableIn X dX7_count_1 (by rw [c1]; decide) (by rw [c1]; decide) (by rw [c1]; rfl) (tgt := 68) (by decide) ?_
    refine g_aload_n X (i := 0) dX7_count_68 rfl rfl ?_
    refine g_iconst X dX7_count_69 (v := 0) (by decide) ?_
    refine g_iconst X dX7_count_70 (v := 1) (by decide) ?_
    obtain ⟨o2, h3, hf⟩ := hfb hf
    refine g_Vi X (q0 := 0) (As := [.int 0, .int 1]) (rest := []) (c_X7_those h3) dX7_count_71 ml_X7_126 yv_X7_those rfl rfl rfl rfl ⟨Nat.le_of_ble_eq_true rfl, Nat.le_of_ble_eq_true rfl⟩ ⟨rfl, rfl⟩ (Nat.le_of_ble_eq_true rfl) ⟨Nat.le_of_ble_eq_true rfl, Nat.le_of_ble_eq_true rfl⟩ ?_
    obtain ⟨o4, h5, hf⟩ := hfb hf
    refine g_Si X (As := [.int o2.1]) (rest := []) (c_X7_ones (wf := (wM ad cI)) h5) dX7_count_74 ml_X7_129 yv_X7_ones rfl rfl ⟨Nat.le_of_ble_eq_true rfl, Nat.le_of_ble_eq_true rfl⟩ ⟨rfl, rfl⟩ (Nat.le_of_ble_eq_true rfl) ⟨Nat.le_of_ble_eq_true rfl, Nat.le_of_ble_eq_true rfl⟩ ?_
    exact g_iret X hr dX7_count_77 hf
  rcases hfi (q := x1 = 1) hf with ⟨c6, hf⟩ | ⟨c6, hf⟩
  · refine g_tableIn X dX7_count_1 (by rw [c6]; decide) (by rw [c6]; decide) (by rw [c6]; rfl) (tgt := 78) (by decide) ?_
    refine g_aload_n X (i := 0) dX7_count_78 rfl rfl ?_
    refine g_get X (q0 := 0) (v := .ref (ad 1)) 0 dX7_count_79 gC_X7 rfl rfl (by decide) fl_X7_7 rfl rfl ?_
    refine g_sipush X dX7_count_82 (v := 226) (by decide) ?_
    obtain ⟨hb7, hf⟩ := hfg hf
    refine g_iald X (q0 := 1) (f := w.2 0) dX7_count_85 rfl hb7 ?_
    exact g_iret X hr dX7_count_86 hf
  rcases hfi (q := x1 = 2) hf with ⟨c8, hf⟩ | ⟨c8, hf⟩
  · refine g_tableIn X dX7_count_1 (by rw [c8]; decide) (by rw [c8]; decide) (by rw [c8]; rfl) (tgt := 87) (by decide) ?_
    refine g_aload_n X (i := 0) dX7_count_87 rfl rfl ?_
    refine g_get X (q0 := 0) (v := .ref (ad 1)) 0 dX7_count_88 gC_X7 rfl rfl (by decide) fl_X7_7 rfl rfl ?_
    refine g_sipush X dX7_count_91 (v := 228) (by decide) ?_
    refine g_iload_n X (i := 1) dX7_count_94 rfl rfl ?_
    refine g_iadd X dX7_count_95 ?_
    refine g_iconst X dX7_count_96 (v := 2) (by decide) ?_
    refine g_isub X dX7_count_97 ?_
    obtain ⟨hb9, hf⟩ := hfg hf
    refine g_iald X (q0 := 1) (f := w.2 0) dX7_count_98 rfl hb9 ?_
    exact g_iret X hr dX7_count_99 hf
  rcases hfi (q := x1 = 3) hf with ⟨c10, hf⟩ | ⟨c10, hf⟩
  · refine g_tableIn X dX7_count_1 (by rw [c10]; decide) (by rw [c10]; decide) (by rw [c10]; rfl) (tgt := 87) (by decide) ?_
    refine g_aload_n X (i := 0) dX7_count_87 rfl rfl ?_
    refine g_get X (q0 := 0) (v := .ref (ad 1)) 0 dX7_count_88 gC_X7 rfl rfl (by decide) fl_X7_7 rfl rfl ?_
    refine g_sipush X dX7_count_91 (v := 228) (by decide) ?_
    refine g_iload_n X (i := 1) dX7_count_94 rfl rfl ?_
    refine g_iadd X dX7_count_95 ?_
    refine g_iconst X dX7_count_96 (v := 2) (by decide) ?_
    refine g_isub X dX7_count_97 ?_
    obtain ⟨hb11, hf⟩ := hfg hf
    refine g_iald X (q0 := 1) (f := w.2 0) dX7_count_98 rfl hb11 ?_
    exact g_iret X hr dX7_count_99 hf
  rcases hfi (q := x1 = 4) hf with ⟨c12, hf⟩ | ⟨c12, hf⟩
  · refine g_tableIn X dX7_count_1 (by rw [c12]; decide) (by rw [c12]; decide) (by rw [c12]; rfl) (tgt := 87) (by decide) ?_
    refine g_aload_n X (i := 0) dX7_count_87 rfl rfl ?_
    refine g_get X (q0 := 0) (v := .ref (ad 1)) 0 dX7_count_88 gC_X7 rfl rfl (by decide) fl_X7_7 rfl rfl ?_
    refine g_sipush X dX7_count_91 (v := 228) (by decide) ?_
    refine g_iload_n X (i := 1) dX7_count_94 rfl rfl ?_
    refine g_iadd X dX7_count_95 ?_
    refine g_iconst X dX7_count_96 (v := 2) (by decide) ?_
    refine g_isub X dX7_count_97 ?_
    obtain ⟨hb13, hf⟩ := hfg hf
    refine g_iald X (q0 := 1) (f := w.2 0) dX7_count_98 rfl hb13 ?_
    exact g_iret X hr dX7_count_99 hf
  rcases hfi (q := x1 = 5) hf with ⟨c14, hf⟩ | ⟨c14, hf⟩
  · refine g_tableIn X dX7_count_1 (by rw [c14]; decide) (by rw [c14]; decide) (by rw [c14]; rfl) (tgt := 87) (by decide) ?_
    refine g_aload_n X (i := 0) dX7_count_87 rfl rfl ?_
    refine g_get X (q0 := 0) (v := .ref (ad 1)) 0 dX7_count_88 gC_X7 rfl rfl (by decide) fl_X7_7 rfl rfl ?_
    refine g_sipush X dX7_count_91 (v := 228) (by decide) ?_
    refine g_iload_n X (i := 1) dX7_count_94 rfl rfl ?_
    refine g_iadd X dX7_count_95 ?_
    refine g_iconst X dX7_count_96 (v := 2) (by decide) ?_
    refine g_isub X dX7_count_97 ?_
    obtain ⟨hb15, hf⟩ := hfg hf
    refine g_iald X (q0 := 1) (f := w.2 0) dX7_count_98 rfl hb15 ?_
    exact g_iret X hr dX7_count_99 hf
  rcases hfi (q := x1 = 6) hf with ⟨c16, hf⟩ | ⟨c16, hf⟩
  · refine g_tableIn X dX7_count_1 (by rw [c16]; decide) (by rw [c16]; decide) (by rw [c16]; rfl) (tgt := 100) (by decide) ?_
    refine g_aload_n X (i := 0) dX7_count_100 rfl rfl ?_
    refine g_get X (q0 := 0) (v := .ref (ad 1)) 0 dX7_count_101 gC_X7 rfl rfl (by decide) fl_X7_7 rfl rfl ?_
    refine g_sipush X dX7_count_104 (v := 193) (by decide) ?_
    obtain ⟨hb17, hf⟩ := hfg hf
    refine g_iald X (q0 := 1) (f := w.2 0) dX7_count_107 rfl hb17 ?_
    exact g_iret X hr dX7_count_108 hf
  rcases hfi (q := x1 = 7) hf with ⟨c18, hf⟩ | ⟨c18, hf⟩
  · refine g_tableIn X dX7_count_1 (by rw [c18]; decide) (by rw [c18]; decide) (by rw [c18]; rfl) (tgt := 109) (by decide) ?_
    refine g_aload_n X (i := 0) dX7_count_109 rfl rfl ?_
    refine g_get X (q0 := 0) (v := .ref (ad 1)) 0 dX7_count_110 gC_X7 rfl rfl (by decide) fl_X7_7 rfl rfl ?_
    refine g_sipush X dX7_count_113 (v := 226) (by decide) ?_
    obtain ⟨hb19, hf⟩ := hfg hf
    refine g_iald X (q0 := 1) (f := w.2 0) dX7_count_116 rfl hb19 ?_
    refine g_iconst X dX7_count_117 (v := 3) (by decide) ?_
    refine g_icmp_ne X dX7_count_118 (tgt := 132) (by decide) hf (fun c20 hf => ?_) (fun c20 hf => ?_)
    · refine g_aload_n X (i := 0) dX7_count_121 rfl rfl ?_
      refine g_get X (q0 := 0) (v := .ref (ad 1)) 0 dX7_count_122 gC_X7 rfl rfl (by decide) fl_X7_7 rfl rfl ?_
      refine g_sipush X dX7_count_125 (v := 227) (by decide) ?_
      obtain ⟨hb21, hf⟩ := hfg hf
      refine g_iald X (q0 := 1) (f := w.2 0) dX7_count_128 rfl hb21 ?_
      refine g_goto X dX7_count_129 (tgt := 134) (by decide) ?_
      exact g_iret X hr dX7_count_134 hf
    · refine g_bipush X dX7_count_132 (v := (-14)) (by decide) ?_
      exact g_iret X hr dX7_count_134 hf
  rcases hfi (q := x1 = 8) hf with ⟨c22, hf⟩ | ⟨c22, hf⟩
  · refine g_tableIn X dX7_count_1 (by rw [c22]; decide) (by rw [c22]; decide) (by rw [c22]; rfl) (tgt := 135) (by decide) ?_
    refine g_aload_n X (i := 0) dX7_count_135 rfl rfl ?_
    refine g_get X (q0 := 0) (v := .ref (ad 1)) 0 dX7_count_136 gC_X7 rfl rfl (by decide) fl_X7_7 rfl rfl ?_
    refine g_sipush X dX7_count_139 (v := 228) (by decide) ?_
    obtain ⟨hb23, hf⟩ := hfg hf
    refine g_iald X (q0 := 1) (f := w.2 0) dX7_count_142 rfl hb23 ?_
    refine g_if_ne X dX7_count_143 (tgt := 151) (by decide) hf (fun c24 hf => ?_) (fun c24 hf => ?_)
    · refine g_bipush X dX7_count_146 (v := (-14)) (by decide) ?_
      refine g_goto X dX7_count_148 (tgt := 159) (by decide) ?_
      exact g_iret X hr dX7_count_159 hf
    · refine g_aload_n X (i := 0) dX7_count_151 rfl rfl ?_
      refine g_get X (q0 := 0) (v := .ref (ad 1)) 0 dX7_count_152 gC_X7 rfl rfl (by decide) fl_X7_7 rfl rfl ?_
      refine g_sipush X dX7_count_155 (v := 232) (by decide) ?_
      obtain ⟨hb25, hf⟩ := hfg hf
      refine g_iald X (q0 := 1) (f := w.2 0) dX7_count_158 rfl hb25 ?_
      exact g_iret X hr dX7_count_159 hf
  rcases hfi (q := x1 = 9) hf with ⟨c26, hf⟩ | ⟨c26, hf⟩
  · refine g_tableIn X dX7_count_1 (by rw [c26]; decide) (by rw [c26]; decide) (by rw [c26]; rfl) (tgt := 160) (by decide) ?_
    refine g_aload_n X (i := 0) dX7_count_160 rfl rfl ?_
    refine g_get X (q0 := 0) (v := .ref (ad 1)) 0 dX7_count_161 gC_X7 rfl rfl (by decide) fl_X7_7 rfl rfl ?_
    refine g_sipush X dX7_count_164 (v := 234) (by decide) ?_
    obtain ⟨hb27, hf⟩ := hfg hf
    refine g_iald X (q0 := 1) (f := w.2 0) dX7_count_167 rfl hb27 ?_
    exact g_iret X hr dX7_count_168 hf
  rcases hfi (q := x1 = 10) hf with ⟨c28, hf⟩ | ⟨c28, hf⟩
  · refine g_tableIn X dX7_count_1 (by rw [c28]; decide) (by rw [c28]; decide) (by rw [c28]; rfl) (tgt := 169) (by decide) ?_
    refine g_aload_n X (i := 0) dX7_count_169 rfl rfl ?_
    refine g_get X (q0 := 0) (v := .int (w.1 1)) 6 dX7_count_170 gC_X7 rfl rfl (by decide) fl_X7_35 rfl rfl ?_
    exact g_iret X hr dX7_count_173 hf
  rcases hfi (q := x1 = 11) hf with ⟨c29, hf⟩ | ⟨c29, hf⟩
  · refine g_tableIn X dX7_count_1 (by rw [c29]; decide) (by rw [c29]; decide) (by rw [c29]; rfl) (tgt := 174) (by decide) ?_
    refine g_aload_n X (i := 0) dX7_count_174 rfl rfl ?_
    refine g_get X (q0 := 0) (v := .int (w.1 3)) 9 dX7_count_175 gC_X7 rfl rfl (by decide) fl_X7_132 rfl rfl ?_
    exact g_iret X hr dX7_count_178 hf
  rcases hfi (q := x1 = 12) hf with ⟨c30, hf⟩ | ⟨c30, hf⟩
  · refine g_tableIn X dX7_count_1 (by rw [c30]; decide) (by rw [c30]; decide) (by rw [c30]; rfl) (tgt := 179) (by decide) ?_
    refine g_aload_n X (i := 0) dX7_count_179 rfl rfl ?_
    refine g_get X (q0 := 0) (v := .int (w.1 0)) 5 dX7_count_180 gC_X7 rfl rfl (by decide) fl_X7_135 rfl rfl ?_
    refine g_if_eq X dX7_count_183 (tgt := 190) (by decide) hf (fun c31 hf => ?_) (fun c31 hf => ?_)
    · refine g_iconst X dX7_count_190 (v := 0) (by decide) ?_
      exact g_iret X hr dX7_count_191 hf
    · refine g_iconst X dX7_count_186 (v := 1) (by decide) ?_
      refine g_goto X dX7_count_187 (tgt := 191) (by decide) ?_
      exact g_iret X hr dX7_count_191 hf
  refine g_tableOut X dX7_count_1 (sw_out x1 0 12 [0, 1, 2, 3, 4, 5, 6, 7, 8, 9, 10, 11, 12] rfl (List.forall_mem_cons.mpr ⟨c1, List.forall_mem_cons.mpr ⟨c6, List.forall_mem_cons.mpr ⟨c8, List.forall_mem_cons.mpr ⟨c10, List.forall_mem_cons.mpr ⟨c12, List.forall_mem_cons.mpr ⟨c14, List.forall_mem_cons.mpr ⟨c16, List.forall_mem_cons.mpr ⟨c18, List.forall_mem_cons.mpr ⟨c22, List.forall_mem_cons.mpr ⟨c26, List.forall_mem_cons.mpr ⟨c28, List.forall_mem_cons.mpr ⟨c29, List.forall_mem_cons.mpr ⟨c30, fun _ h => absurd h List.not_mem_nil⟩⟩⟩⟩⟩⟩⟩⟩⟩⟩⟩⟩⟩)) (tgt := 192) (by decide) ?_
  refine g_bipush X dX7_count_192 (v := (-11)) (by decide) ?_
  exact g_iret X hr dX7_count_194 hf
def f_X7_far_L15 : Nat → Int32 → Int32 → Int32 → St → Option (Int32 × St)
  | 0, _, _, _, _ => none
  | n + 1, x1, x2, x3, w => (if x3 < 4 then if ib (218 + x3) 235 then (if (w.2 0 (218 + x3).toNatClampNeg) < 0 then f_X7_far_L15 n x1 (x2 ||| 0) (x3 + 1) w else if ib (218 + x3) 235 then f_X7_far_L15 n x1 (x2 ||| (1 <<< ((w.2 0 (218 + x3).toNatClampNeg) &&& 31))) (x3 + 1) w else none) else none else some (x2, w))
def f_X7_far_L92 : Nat → Int32 → Int32 → Int32 → Int32 → Int32 → Int32 → St → Option (Int32 × St)
  | 0, _, _, _, _, _, _, _ => none
  | n + 1, x1, x2, x3, x5, x6, x7, w => (if x7 < 3 then (if ((x2 >>> (x6 &&& 31)) &&& 1) = 1 then (f_X7_of x6 (1 + x7) w).bind fun o15 => (if o15.1 < 0 then f_X7_far_L92 n x1 x2 x3 (x5 ||| 0) x6 (x7 + 1) o15.2 else (f_X7_of x6 (1 + x7) o15.2).bind fun o18 => f_X7_far_L92 n x1 x2 x3 (x5 ||| (1 <<< (o18.1 &&& 31))) x6 (x7 + 1) o18.2) else some (x5, w)) else some (x5, w))
def f_X7_far_L82 : Nat → Int32 → Int32 → Int32 → Int32 → Int32 → St → Option (Int32 × St)
  | 0, _, _, _, _, _, _ => none
  | n + 1, x1, x2, x3, x5, x6, w => (if x6 < 24 then (f_X7_far_L92 BIG x1 x2 x3 x5 x6 0 w).bind fun o20 => f_X7_far_L82 n x1 x2 x3 o20.1 (x6 + 1) o20.2 else some (x5, w))
def f_X7_far_L63 : Nat → Int32 → Int32 → Int32 → Int32 → St → Option (Int32 × Int32 × St)
  | 0, _, _, _, _, _ => none
  | n + 1, x1, x2, x3, x4, w => (if x4 = 0 then some (x2, x3, w) else (if ((x2 >>> (x1 &&& 31)) &&& 1) = 0 then (f_X7_far_L82 BIG x1 x2 x3 x2 0 w).bind fun o22 => (if o22.1 = x2 then f_X7_far_L63 n x1 o22.1 (x3 + 1) 0 o22.2 else f_X7_far_L63 n x1 o22.1 (x3 + 1) 1 o22.2) else some (x2, x3, w)))
def f_X7_far (x1 : Int32) (w : St) : Option (Int32 × St) := (f_X7_isObject x1 w).bind fun o1 => (if o1.1 = 0 then some ((-11), o1.2) else (f_X7_far_L15 BIG x1 0 0 o1.2).bind fun o8 => (f_X7_far_L63 BIG x1 o8.1 0 1 o8.2).bind fun o25 => (if ((o25.1 >>> (x1 &&& 31)) &&& 1) = 1 then some (o25.2.1, o25.2.2) else some ((-14), o25.2.2)))
set_option maxRecDepth 100000 in
set_option maxHeartbeats 4000000 in
theorem gl_X7_far_L15 {p : Program} {l : Launch} {e : Env} {s : State} {m : MethodId} {args : Array Value} {below : List Frame} {meth : Method} {c : Code} {D : va_G} {A : Nat → Prop} {cI : ClassId × ClassId} {ad : Nat → Nat} {Q : State → Prop} {o : Int32 × St} (X : gX p s m args meth c cX7_far 8 RX7 D cI) (n : Nat) : ∀ {x1 x2 x3 : Int32} {w : St}, f_X7_far_L15 n x1 x2 x3 w = some o → G p l e rm_X7_far s m args below meth c D A 8 Q (wM ad cI) 0 0 58 [some (.ref (ad 0)), some (.int x1), some (.int o.1), none, none, none, none, none] [] o.2 → G p l e rm_X7_far s m args below meth c D A 8 Q (wM ad cI) 0 0 15 [some (.ref (ad 0)), some (.int x1), some (.int x2), some (.int x3), none, none, none, none] [] w := by
  induction n with
  | zero => intro x1 x2 x3 w hf; cases hf
  | succ n ih =>
    intro x1 x2 x3 w hf k
    rw [f_X7_far_L15] at hf
    refine g_iload_n X (i := 3) dX7_far_15 rfl rfl ?_
    refine g_iconst X dX7_far_16 (v := 4) (by decide) ?_
    refine g_icmp_ge X dX7_far_17 (tgt := 58) (by decide) hf (fun c4 hf => ?_) (fun c4 hf => ?_)
    · refine g_iload_n X (i := 2) dX7_far_20 rfl rfl ?_
      refine g_aload_n X (i := 0) dX7_far_21 rfl rfl ?_
      refine g_get X (q0 := 0) (v := .ref (ad 1)) 0 dX7_far_22 gC_X7 rfl rfl (by decide) fl_X7_7 rfl rfl ?_
      refine g_sipush X dX7_far_25 (v := 218) (by decide) ?_
      refine g_iload_n X (i := 3) dX7_far_28 rfl rfl ?_
      refine g_iadd X dX7_far_29 ?_
      obtain ⟨hb5, hf⟩ := hfg hf
      refine g_iald X (q0 := 1) (f := w.2 0) dX7_far_30 rfl hb5 ?_
      refine g_if_lt X dX7_far_31 (tgt := 49) (by decide) hf (fun c6 hf => ?_) (fun c6 hf => ?_)
      · refine g_iconst X dX7_far_49 (v := 0) (by decide) ?_
        refine g_ior X dX7_far_50 ?_
        refine g_istore_n X (i := 2) dX7_far_51 rfl (by decide) rfl ?_
        refine g_iinc X (i := 3) (v := 1) dX7_far_52 rfl (by decide) (by decide) rfl ?_
        refine g_goto X dX7_far_55 (tgt := 15) (by decide) ?_
        exact ih hf k
      · refine g_iconst X dX7_far_34 (v := 1) (by decide) ?_
        refine g_aload_n X (i := 0) dX7_far_35 rfl rfl ?_
        refine g_get X (q0 := 0) (v := .ref (ad 1)) 0 dX7_far_36 gC_X7 rfl rfl (by decide) fl_X7_7 rfl rfl ?_
        refine g_sipush X dX7_far_39 (v := 218) (by decide) ?_
        refine g_iload_n X (i := 3) dX7_far_42 rfl rfl ?_
        refine g_iadd X dX7_far_43 ?_
        obtain ⟨hb7, hf⟩ := hfg hf
        refine g_iald X (q0 := 1) (f := w.2 0) dX7_far_44 rfl hb7 ?_
        refine g_ishl X dX7_far_45 ?_
        refine g_goto X dX7_far_46 (tgt := 50) (by decide) ?_
        refine g_ior X dX7_far_50 ?_
        refine g_istore_n X (i := 2) dX7_far_51 rfl (by decide) rfl ?_
        refine g_iinc X (i := 3) (v := 1) dX7_far_52 rfl (by decide) (by decide) rfl ?_
        refine g_goto X dX7_far_55 (tgt := 15) (by decide) ?_
        exact ih hf k
    · obtain rfl := Option.some.inj hf
      refine g_sub (losub (lo' := [some (.ref (ad 0)), some (.int x1), some (.int x2), none, none, none, none, none]) ⟨rfl, rfl, rfl, trivial⟩) ?_
      exact k
set_option maxRecDepth 100000 in
set_option maxHeartbeats 4000000 in
theorem gl_X7_far_L92 {p : Program} {l : Launch} {e : Env} {s : State} {m : MethodId} {args : Array Value} {below : List Frame} {meth : Method} {c : Code} {D : va_G} {A : Nat → Prop} {cI : ClassId × ClassId} {ad : Nat → Nat} {Q : State → Prop} {o : Int32 × St} (X : gX p s m args meth c cX7_far 8 RX7 D cI) (n : Nat) : ∀ {x1 x2 x3 x5 x6 x7 : Int32} {w : St}, f_X7_far_L92 n x1 x2 x3 x5 x6 x7 w = some o → G p l e rm_X7_far s m args below meth c D A 8 Q (wM ad cI) 0 0 148 [some (.ref (ad 0)), some (.int x1), some (.int x2), some (.int x3), none, some (.int o.1), some (.int x6), none] [] o.2 → G p l e rm_X7_far s m args below meth c D A 8 Q (wM ad cI) 0 0 92 [some (.ref (ad 0)), some (.int x1), some (.int x2), some (.int x3), none, some (.int x5), some (.int x6), some (.int x7)] [] w := by
  induction n with
  | zero => intro x1 x2 x3 x5 x6 x7 w hf; cases hf
  | succ n ih =>
    intro x1 x2 x3 x5 x6 x7 w hf k
    rw [f_X7_far_L92] at hf
    refine g_iload X dX7_far_92 rfl ?_
    refine g_iconst X dX7_far_94 (v := 3) (by decide) ?_
    refine g_icmp_ge X dX7_far_95 (tgt := 148) (by decide) hf (fun c13 hf => ?_) (fun c13 hf => ?_)
    · refine g_iload_n X (i := 2) dX7_far_98 rfl rfl ?_
      refine g_iload X dX7_far_99 rfl ?_
      refine g_ishr X dX7_far_101 ?_
      refine g_iconst X dX7_far_102 (v := 1) (by decide) ?_
      refine g_iand X dX7_far_103 ?_
      refine g_iconst X dX7_far_104 (v := 1) (by decide) ?_
      refine g_icmp_ne X dX7_far_105 (tgt := 148) (by decide) hf (fun c14 hf => ?_) (fun c14 hf => ?_)
      · refine g_iload X dX7_far_108 rfl ?_
        refine g_aload_n X (i := 0) dX7_far_110 rfl rfl ?_
        refine g_iload X dX7_far_111 rfl ?_
        refine g_iconst X dX7_far_113 (v := 1) (by decide) ?_
        refine g_iload X dX7_far_114 rfl ?_
        refine g_iadd X dX7_far_116 ?_
        obtain ⟨o15, h16, hf⟩ := hfb hf
        refine g_Vi X (q0 := 0) (As := [.int x6, .int (1 + x7)]) (rest := [.int x5]) (c_X7_of h16) dX7_far_117 ml_X7_43 yv_X7_of rfl rfl rfl rfl ⟨Nat.le_of_ble_eq_true rfl, Nat.le_of_ble_eq_true rfl⟩ ⟨rfl, rfl⟩ (Nat.le_of_ble_eq_true rfl) ⟨Nat.le_of_ble_eq_true rfl, Nat.le_of_ble_eq_true rfl⟩ ?_
        refine g_if_lt X dX7_far_120 (tgt := 138) (by decide) hf (fun c17 hf => ?_) (fun c17 hf => ?_)
        · refine g_iconst X dX7_far_138 (v := 0) (by decide) ?_
          refine g_ior X dX7_far_139 ?_
          refine g_istore X dX7_far_140 (by decide) rfl ?_
          refine g_iinc X (i := 7) (v := 1) dX7_far_142 rfl (by decide) (by decide) rfl ?_
          refine g_goto X dX7_far_145 (tgt := 92) (by decide) ?_
          exact ih hf k
        · refine g_iconst X dX7_far_123 (v := 1) (by decide) ?_
          refine g_aload_n X (i := 0) dX7_far_124 rfl rfl ?_
          refine g_iload X dX7_far_125 rfl ?_
          refine g_iconst X dX7_far_127 (v := 1) (by decide) ?_
          refine g_iload X dX7_far_128 rfl ?_
          refine g_iadd X dX7_far_130 ?_
          obtain ⟨o18, h19, hf⟩ := hfb hf
          refine g_Vi X (q0 := 0) (As := [.int x6, .int (1 + x7)]) (rest := [.int 1, .int x5]) (c_X7_of h19) dX7_far_131 ml_X7_43 yv_X7_of rfl rfl rfl rfl ⟨Nat.le_of_ble_eq_true rfl, Nat.le_of_ble_eq_true rfl⟩ ⟨rfl, rfl⟩ (Nat.le_of_ble_eq_true rfl) ⟨Nat.le_of_ble_eq_true rfl, Nat.le_of_ble_eq_true rfl⟩ ?_
          refine g_ishl X dX7_far_134 ?_
          refine g_goto X dX7_far_135 (tgt := 139) (by decide) ?_
          refine g_ior X dX7_far_139 ?_
          refine g_istore X dX7_far_140 (by decide) rfl ?_
          refine g_iinc X (i := 7) (v := 1) dX7_far_142 rfl (by decide) (by decide) rfl ?_
          refine g_goto X dX7_far_145 (tgt := 92) (by decide) ?_
          exact ih hf k
      · obtain rfl := Option.some.inj hf
        refine g_sub (losub (lo' := [some (.ref (ad 0)), some (.int x1), some (.int x2), some (.int x3), none, some (.int x5), some (.int x6), none]) ⟨rfl, rfl, rfl, rfl, rfl, rfl, trivial⟩) ?_
        exact k
    · obtain rfl := Option.some.inj hf
      refine g_sub (losub (lo' := [some (.ref (ad 0)), some (.int x1), some (.int x2), some (.int x3), none, some (.int x5), some (.int x6), none]) ⟨rfl, rfl, rfl, rfl, rfl, rfl, trivial⟩) ?_
      exact k
set_option maxRecDepth 100000 in
set_option maxHeartbeats 4000000 in
theorem gl_X7_far_L82 {p : Program} {l : Launch} {e : Env} {s : State} {m : MethodId} {args : Array Value} {below : List Frame} {meth : Method} {c : Code} {D : va_G} {A : Nat → Prop} {cI : ClassId × ClassId} {ad : Nat → Nat} {Q : State → Prop} {o : Int32 × St} (X : gX p s m args meth c cX7_far 8 RX7 D cI) (n : Nat) : ∀ {x1 x2 x3 x5 x6 : Int32} {w : St}, f_X7_far_L82 n x1 x2 x3 x5 x6 w = some o → G p l e rm_X7_far s m args below meth c D A 8 Q (wM ad cI) 0 0 154 [some (.ref (ad 0)), some (.int x1), some (.int x2), some (.int x3), none, some (.int o.1), none, none] [] o.2 → G p l e rm_X7_far s m args below meth c D A 8 Q (wM ad cI) 0 0 82 [some (.ref (ad 0)), some (.int x1), some (.int x2), some (.int x3), none, some (.int x5), some (.int x6), none] [] w := by
  induction n with
  | zero => intro x1 x2 x3 x5 x6 w hf; cases hf
  | succ n ih =>
    intro x1 x2 x3 x5 x6 w hf k
    rw [f_X7_far_L82] at hf
    refine g_iload X dX7_far_82 rfl ?_
    refine g_bipush X dX7_far_84 (v := 24) (by decide) ?_
    refine g_icmp_ge X dX7_far_86 (tgt := 154) (by decide) hf (fun c12 hf => ?_) (fun c12 hf => ?_)
    · refine g_iconst X dX7_far_89 (v := 0) (by decide) ?_
      refine g_istore X dX7_far_90 (by decide) rfl ?_
      obtain ⟨o20, h21, hf⟩ := hfb hf
      refine gl_X7_far_L92 X BIG h21 ?_
      refine g_iinc X (i := 6) (v := 1) dX7_far_148 rfl (by decide) (by decide) rfl ?_
      refine g_goto X dX7_far_151 (tgt := 82) (by decide) ?_
      exact ih hf k
    · obtain rfl := Option.some.inj hf
      refine g_sub (losub (lo' := [some (.ref (ad 0)), some (.int x1), some (.int x2), some (.int x3), none, some (.int x5), none, none]) ⟨rfl, rfl, rfl, rfl, rfl, trivial⟩) ?_
      exact k
set_option maxRecDepth 100000 in
set_option maxHeartbeats 4000000 in
theorem gl_X7_far_L63 {p : Program} {l : Launch} {e : Env} {s : State} {m : MethodId} {args : Array Value} {below : List Frame} {meth : Method} {c : Code} {D : va_G} {A : Nat → Prop} {cI : ClassId × ClassId} {ad : Nat → Nat} {Q : State → Prop} {o : Int32 × Int32 × St} (X : gX p s m args meth c cX7_far 8 RX7 D cI) (n : Nat) : ∀ {x1 x2 x3 x4 : Int32} {w : St}, f_X7_far_L63 n x1 x2 x3 x4 w = some o → G p l e rm_X7_far s m args below meth c D A 8 Q (wM ad cI) 0 0 176 [none, some (.int x1), some (.int o.1), some (.int o.2.1), none, none, none, none] [] o.2.2 → G p l e rm_X7_far s m args below meth c D A 8 Q (wM ad cI) 0 0 63 [some (.ref (ad 0)), some (.int x1), some (.int x2), some (.int x3), some (.int x4), none, none, none] [] w := by
  induction n with
  | zero => intro x1 x2 x3 x4 w hf; cases hf
  | succ n ih =>
    intro x1 x2 x3 x4 w hf k
    rw [f_X7_far_L63] at hf
    refine g_iload X dX7_far_63 rfl ?_
    refine g_if_eq X dX7_far_65 (tgt := 176) (by decide) hf (fun c10 hf => ?_) (fun c10 hf => ?_)
    · obtain rfl := Option.some.inj hf
      refine g_sub (losub (lo' := [none, some (.int x1), some (.int x2), some (.int x3), none, none, none, none]) ⟨rfl, rfl, rfl, trivial⟩) ?_
      exact k
    · refine g_iload_n X (i := 2) dX7_far_68 rfl rfl ?_
      refine g_iload_n X (i := 1) dX7_far_69 rfl rfl ?_
      refine g_ishr X dX7_far_70 ?_
      refine g_iconst X dX7_far_71 (v := 1) (by decide) ?_
      refine g_iand X dX7_far_72 ?_
      refine g_if_ne X dX7_far_73 (tgt := 176) (by decide) hf (fun c11 hf => ?_) (fun c11 hf => ?_)
      · refine g_iload_n X (i := 2) dX7_far_76 rfl rfl ?_
        refine g_istore X dX7_far_77 (by decide) rfl ?_
        refine g_iconst X dX7_far_79 (v := 0) (by decide) ?_
        refine g_istore X dX7_far_80 (by decide) rfl ?_
        refine g_sub (losub (lo' := [some (.ref (ad 0)), some (.int x1), some (.int x2), some (.int x3), none, some (.int x2), some (.int 0), none]) ⟨rfl, rfl, rfl, rfl, rfl, rfl, trivial⟩) ?_
        obtain ⟨o22, h23, hf⟩ := hfb hf
        refine gl_X7_far_L82 X BIG h23 ?_
        refine g_iload X dX7_far_154 rfl ?_
        refine g_iload_n X (i := 2) dX7_far_156 rfl rfl ?_
        refine g_icmp_eq X dX7_far_157 (tgt := 164) (by decide) hf (fun c24 hf => ?_) (fun c24 hf => ?_)
        · refine g_iconst X dX7_far_164 (v := 0) (by decide) ?_
          refine g_istore X dX7_far_165 (by decide) rfl ?_
          refine g_iload X dX7_far_167 rfl ?_
          refine g_istore_n X (i := 2) dX7_far_169 rfl (by decide) rfl ?_
          refine g_iinc X (i := 3) (v := 1) dX7_far_170 rfl (by decide) (by decide) rfl ?_
          refine g_goto X dX7_far_173 (tgt := 63) (by decide) ?_
          refine g_sub (losub (lo' := [some (.ref (ad 0)), some (.int x1), some (.int o22.1), some (.int (x3 + 1)), some (.int 0), none, none, none]) ⟨rfl, rfl, rfl, rfl, rfl, trivial⟩) ?_
          exact ih hf k
        · refine g_iconst X dX7_far_160 (v := 1) (by decide) ?_
          refine g_goto X dX7_far_161 (tgt := 165) (by decide) ?_
          refine g_istore X dX7_far_165 (by decide) rfl ?_
          refine g_iload X dX7_far_167 rfl ?_
          refine g_istore_n X (i := 2) dX7_far_169 rfl (by decide) rfl ?_
          refine g_iinc X (i := 3) (v := 1) dX7_far_170 rfl (by decide) (by decide) rfl ?_
          refine g_goto X dX7_far_173 (tgt := 63) (by decide) ?_
          refine g_sub (losub (lo' := [some (.ref (ad 0)), some (.int x1), some (.int o22.1), some (.int (x3 + 1)), some (.int 1), none, none, none]) ⟨rfl, rfl, rfl, rfl, rfl, trivial⟩) ?_
          exact ih hf k
      · obtain rfl := Option.some.inj hf
        refine g_sub (losub (lo' := [none, some (.int x1), some (.int x2), some (.int x3), none, none, none, none]) ⟨rfl, rfl, rfl, trivial⟩) ?_
        exact k
set_option maxRecDepth 100000 in
set_option maxHeartbeats 4000000 in
theorem c_X7_far {l : Launch} {D : va_G} {cI : ClassId × ClassId} {A : Nat → Prop} {ad : Nat → Nat} {x1 : Int32} {w : St} {o : Int32 × St} (hf : f_X7_far x1 w = some o) : CTi l D cI A yX7_far cX7_far 8 (some .int) rm_X7_far [.ref (ad 0), .int x1] ((wM ad cI) w) o.1 ((wM ad cI) o.2)   := by
  refine CTi.of (by decide +kernel) rfl (Nat.le_of_ble_eq_true rfl) ?_
  intro p e s m args below meth c X hr
  have X : gX p s m args meth c cX7_far 8 RX7 D cI := X
  show G _ _ _ _ _ _ _ _ _ _ _ _ _ _ _ _ _ 0 [some (.ref (ad 0)), some (.int x1), none, none, none, none, none, none] [] w
  unfold f_X7_far at hf
  refine g_aload_n X (i := 0) dX7_far_0 rfl rfl ?_
  refine g_iload_n X (i := 1) dX7_far_1 rfl rfl ?_
  obtain ⟨o1, h2, hf⟩ := hfb hf
  refine g_Vi X (q0 := 0) (As := [.int x1]) (rest := []) (c_X7_isObject h2) dX7_far_2 ml_X7_87 yv_X7_isObject rfl rfl rfl rfl ⟨Nat.le_of_ble_eq_true rfl, Nat.le_of_ble_eq_true rfl⟩ ⟨rfl, rfl⟩ (Nat.le_of_ble_eq_true rfl) ⟨Nat.le_of_ble_eq_true rfl, Nat.le_of_ble_eq_true rfl⟩ ?_
  refine g_if_ne X dX7_far_5 (tgt := 11) (by decide) hf (fun c3 hf => ?_) (fun c3 hf => ?_)
  · refine g_bipush X dX7_far_8 (v := (-11)) (by decide) ?_
    exact g_iret X hr dX7_far_10 hf
  · refine g_iconst X dX7_far_11 (v := 0) (by decide) ?_
    refine g_istore_n X (i := 2) dX7_far_12 rfl (by decide) rfl ?_
    refine g_iconst X dX7_far_13 (v := 0) (by decide) ?_
    refine g_istore_n X (i := 3) dX7_far_14 rfl (by decide) rfl ?_
    obtain ⟨o8, h9, hf⟩ := hfb hf
    refine gl_X7_far_L15 X BIG h9 ?_
    refine g_iconst X dX7_far_58 (v := 0) (by decide) ?_
    refine g_istore_n X (i := 3) dX7_far_59 rfl (by decide) rfl ?_
    refine g_iconst X dX7_far_60 (v := 1) (by decide) ?_
    refine g_istore X dX7_far_61 (by decide) rfl ?_
    obtain ⟨o25, h26, hf⟩ := hfb hf
    refine gl_X7_far_L63 X BIG h26 ?_
    refine g_iload_n X (i := 2) dX7_far_176 rfl rfl ?_
    refine g_iload_n X (i := 1) dX7_far_177 rfl rfl ?_
    refine g_ishr X dX7_far_178 ?_
    refine g_iconst X dX7_far_179 (v := 1) (by decide) ?_
    refine g_iand X dX7_far_180 ?_
    refine g_iconst X dX7_far_181 (v := 1) (by decide) ?_
    refine g_icmp_ne X dX7_far_182 (tgt := 189) (by decide) hf (fun c27 hf => ?_) (fun c27 hf => ?_)
    · refine g_iload_n X (i := 3) dX7_far_185 rfl rfl ?_
      refine g_goto X dX7_far_186 (tgt := 191) (by decide) ?_
      exact g_iret X hr dX7_far_191 hf
    · refine g_bipush X dX7_far_189 (v := (-14)) (by decide) ?_
      exact g_iret X hr dX7_far_191 hf
def f_X7_isAt (x1 x2 : Int32) (w : St) : Option (Int32 × St) := (if (w.1 4) < (w.1 3) then if ib (w.1 4) 60 then (f_X7_in (w.2 5 (w.1 4).toNatClampNeg) x1 x2 w).bind fun o3 => (if o3.1 = 0 then some (0, o3.2) else some (1, o3.2)) else none else some (0, w))
set_option maxRecDepth 100000 in
set_option maxHeartbeats 4000000 in
theorem c_X7_isAt {l : Launch} {D : va_G} {cI : ClassId × ClassId} {A : Nat → Prop} {ad : Nat → Nat} {x1 x2 : Int32} {w : St} {o : Int32 × St} (hf : f_X7_isAt x1 x2 w = some o) : CTi l D cI A yX7_isAt cX7_isAt 3 (some .boolean) rm_X7_isAt [.ref (ad 0), .int x1, .int x2] ((wM ad cI) w) o.1 ((wM ad cI) o.2)   := by
  refine CTi.of (by decide +kernel) rfl (Nat.le_of_ble_eq_true rfl) ?_
  intro p e s m args below meth c X hr
  have X : gX p s m args meth c cX7_isAt 3 RX7 D cI := X
  show G _ _ _ _ _ _ _ _ _ _ _ _ _ _ _ _ _ 0 [some (.ref (ad 0)), some (.int x1), some (.int x2)] [] w
  unfold f_X7_isAt at hf
  refine g_aload_n X (i := 0) dX7_isAt_0 rfl rfl ?_
  refine g_get X (q0 := 0) (v := .int (w.1 4)) 10 dX7_isAt_1 gC_X7 rfl rfl (by decide) fl_X7_145 rfl rfl ?_
  refine g_aload_n X (i := 0) dX7_isAt_4 rfl rfl ?_
  refine g_get X (q0 := 0) (v := .int (w.1 3)) 9 dX7_isAt_5 gC_X7 rfl rfl (by decide) fl_X7_132 rfl rfl ?_
  refine g_icmp_ge X dX7_isAt_8 (tgt := 32) (by decide) hf (fun c1 hf => ?_) (fun c1 hf => ?_)
  · refine g_aload_n X (i := 0) dX7_isAt_11 rfl rfl ?_
    refine g_get X (q0 := 0) (v := .ref (ad 6)) 8 dX7_isAt_12 gC_X7 rfl rfl (by decide) fl_X7_25 rfl rfl ?_
    refine g_aload_n X (i := 0) dX7_isAt_15 rfl rfl ?_
    refine g_get X (q0 := 0) (v := .int (w.1 4)) 10 dX7_isAt_16 gC_X7 rfl rfl (by decide) fl_X7_145 rfl rfl ?_
    obtain ⟨hb2, hf⟩ := hfg hf
    refine g_iald X (q0 := 6) (f := w.2 5) dX7_isAt_19 rfl hb2 ?_
    refine g_iload_n X (i := 1) dX7_isAt_20 rfl rfl ?_
    refine g_iload_n X (i := 2) dX7_isAt_21 rfl rfl ?_
    obtain ⟨o3, h4, hf⟩ := hfb hf
    refine g_Si X (As := [.int (w.2 5 (w.1 4).toNatClampNeg), .int x1, .int x2]) (rest := []) (c_X7_in (wf := (wM ad cI)) h4) dX7_isAt_22 ml_X7_39 yv_X7_in rfl rfl ⟨Nat.le_of_ble_eq_true rfl, Nat.le_of_ble_eq_true rfl⟩ ⟨rfl, rfl⟩ (Nat.le_of_ble_eq_true rfl) ⟨Nat.le_of_ble_eq_true rfl, Nat.le_of_ble_eq_true rfl⟩ ?_
    refine g_if_eq X dX7_isAt_25 (tgt := 32) (by decide) hf (fun c5 hf => ?_) (fun c5 hf => ?_)
    · refine g_iconst X dX7_isAt_32 (v := 0) (by decide) ?_
      exact g_zret X hr dX7_isAt_33 rfl hf
    · refine g_iconst X dX7_isAt_28 (v := 1) (by decide) ?_
      refine g_goto X dX7_isAt_29 (tgt := 33) (by decide) ?_
      exact g_zret X hr dX7_isAt_33 rfl hf
  · refine g_iconst X dX7_isAt_32 (v := 0) (by decide) ?_
    exact g_zret X hr dX7_isAt_33 rfl hf
def f_X7_number_L12 : Nat → Int32 → Int32 → St → Option (St)
  | 0, _, _, _ => none
  | n + 1, x1, x2, w => (f_X7_isAt 48 57 w).bind fun o2 => (if o2.1 = 0 then some (o2.2) else (if ((o2.2.1 4) - x2) < 3 then if ib x1 3 then if ib (o2.2.1 4) 60 then if ib x1 3 then f_X7_number_L12 n x1 x2 (sR (sA o2.2 6 x1 (((10 * (o2.2.2 6 x1.toNatClampNeg)) + (o2.2.2 5 (o2.2.1 4).toNatClampNeg)) - 48)) 4 ((o2.2.1 4) + 1)) else none else none else none else some (o2.2)))
def f_X7_number (x1 : Int32) (w : St) : Option (Int32 × St) := if ib x1 3 then (f_X7_number_L12 BIG x1 (w.1 4) (sA w 6 x1 0)).bind fun o9 => (if (w.1 4) < (o9.1 4) then some (1, o9) else some (0, o9)) else none
set_option maxRecDepth 100000 in
set_option maxHeartbeats 4000000 in
theorem gl_X7_number_L12 {p : Program} {l : Launch} {e : Env} {s : State} {m : MethodId} {args : Array Value} {below : List Frame} {meth : Method} {c : Code} {D : va_G} {A : Nat → Prop} {cI : ClassId × ClassId} {ad : Nat → Nat} {Q : State → Prop} {o : St} (X : gX p s m args meth c cX7_number 3 RX7 D cI) (n : Nat) : ∀ {x1 x2 : Int32} {w : St}, f_X7_number_L12 n x1 x2 w = some o → G p l e rm_X7_number s m args below meth c D A 3 Q (wM ad cI) 0 0 74 [some (.ref (ad 0)), none, some (.int x2)] [] o → G p l e rm_X7_number s m args below meth c D A 3 Q (wM ad cI) 0 0 12 [some (.ref (ad 0)), some (.int x1), some (.int x2)] [] w := by
  induction n with
  | zero => intro x1 x2 w hf; cases hf
  | succ n ih =>
    intro x1 x2 w hf k
    rw [f_X7_number_L12] at hf
    refine g_aload_n X (i := 0) dX7_number_12 rfl rfl ?_
    refine g_bipush X dX7_number_13 (v := 48) (by decide) ?_
    refine g_bipush X dX7_number_15 (v := 57) (by decide) ?_
    obtain ⟨o2, h3, hf⟩ := hfb hf
    refine g_Vi X (q0 := 0) (As := [.int 48, .int 57]) (rest := []) (c_X7_isAt h3) dX7_number_17 ml_X7_148 yv_X7_isAt rfl rfl rfl rfl ⟨Nat.le_of_ble_eq_true rfl, Nat.le_of_ble_eq_true rfl⟩ ⟨rfl, rfl⟩ (Nat.le_of_ble_eq_true rfl) ⟨Nat.le_of_ble_eq_true rfl, Nat.le_of_ble_eq_true rfl⟩ ?_
    refine g_if_eq X dX7_number_20 (tgt := 74) (by decide) hf (fun c4 hf => ?_) (fun c4 hf => ?_)
    · obtain rfl := Option.some.inj hf
      refine g_sub (losub (lo' := [some (.ref (ad 0)), none, some (.int x2)]) ⟨rfl, rfl, trivial⟩) ?_
      exact k
    · refine g_aload_n X (i := 0) dX7_number_23 rfl rfl ?_
      refine g_get X (q0 := 0) (v := .int (o2.2.1 4)) 10 dX7_number_24 gC_X7 rfl rfl (by decide) fl_X7_145 rfl rfl ?_
      refine g_iload_n X (i := 2) dX7_number_27 rfl rfl ?_
      refine g_isub X dX7_number_28 ?_
      refine g_iconst X dX7_number_29 (v := 3) (by decide) ?_
      refine g_icmp_ge X dX7_number_30 (tgt := 74) (by decide) hf (fun c5 hf => ?_) (fun c5 hf => ?_)
      · refine g_aload_n X (i := 0) dX7_number_33 rfl rfl ?_
        refine g_get X (q0 := 0) (v := .ref (ad 7)) 14 dX7_number_34 gC_X7 rfl rfl (by decide) fl_X7_28 rfl rfl ?_
        refine g_iload_n X (i := 1) dX7_number_37 rfl rfl ?_
        refine g_bipush X dX7_number_38 (v := 10) (by decide) ?_
        refine g_aload_n X (i := 0) dX7_number_40 rfl rfl ?_
        refine g_get X (q0 := 0) (v := .ref (ad 7)) 14 dX7_number_41 gC_X7 rfl rfl (by decide) fl_X7_28 rfl rfl ?_
        refine g_iload_n X (i := 1) dX7_number_44 rfl rfl ?_
        obtain ⟨hb6, hf⟩ := hfg hf
        refine g_iald X (q0 := 7) (f := o2.2.2 6) dX7_number_45 rfl hb6 ?_
        refine g_imul X dX7_number_46 ?_
        refine g_aload_n X (i := 0) dX7_number_47 rfl rfl ?_
        refine g_get X (q0 := 0) (v := .ref (ad 6)) 8 dX7_number_48 gC_X7 rfl rfl (by decide) fl_X7_25 rfl rfl ?_
        refine g_aload_n X (i := 0) dX7_number_51 rfl rfl ?_
        refine g_get X (q0 := 0) (v := .int (o2.2.1 4)) 10 dX7_number_52 gC_X7 rfl rfl (by decide) fl_X7_145 rfl rfl ?_
        obtain ⟨hb7, hf⟩ := hfg hf
        refine g_iald X (q0 := 6) (f := o2.2.2 5) dX7_number_55 rfl hb7 ?_
        refine g_iadd X dX7_number_56 ?_
        refine g_bipush X dX7_number_57 (v := 48) (by decide) ?_
        refine g_isub X dX7_number_59 ?_
        obtain ⟨hb8, hf⟩ := hfg hf
        refine g_iast X (q0 := 7) (f := o2.2.2 6) dX7_number_60 rfl hb8 (awM_6 ad cI _ _ _) ?_
        refine g_aload_n X (i := 0) dX7_number_61 rfl rfl ?_
        refine g_dup X dX7_number_62 rfl ?_
        refine g_get X (q0 := 0) (v := .int (o2.2.1 4)) 10 dX7_number_63 gC_X7 rfl rfl (by decide) fl_X7_145 rfl rfl ?_
        refine g_iconst X dX7_number_66 (v := 1) (by decide) ?_
        refine g_iadd X dX7_number_67 ?_
        refine g_put X (q0 := 0) 10 dX7_number_68 gC_X7 rfl rfl (by decide) fl_X7_145 rfl rfl rfl rfl (Nat.le_of_ble_eq_true rfl) (pwM_4 ad cI _ _) ?_
        refine g_goto X dX7_number_71 (tgt := 12) (by decide) ?_
        exact ih hf k
      · obtain rfl := Option.some.inj hf
        refine g_sub (losub (lo' := [some (.ref (ad 0)), none, some (.int x2)]) ⟨rfl, rfl, trivial⟩) ?_
        exact k
set_option maxRecDepth 100000 in
set_option maxHeartbeats 4000000 in
theorem c_X7_number {l : Launch} {D : va_G} {cI : ClassId × ClassId} {A : Nat → Prop} {ad : Nat → Nat} {x1 : Int32} {w : St} {o : Int32 × St} (hf : f_X7_number x1 w = some o) : CTi l D cI A yX7_number cX7_number 3 (some .boolean) rm_X7_number [.ref (ad 0), .int x1] ((wM ad cI) w) o.1 ((wM ad cI) o.2)   := by
  refine CTi.of (by decide +kernel) rfl (Nat.le_of_ble_eq_true rfl) ?_
  intro p e s m args below meth c X hr
  have X : gX p s m args meth c cX7_number 3 RX7 D cI := X
  show G _ _ _ _ _ _ _ _ _ _ _ _ _ _ _ _ _ 0 [some (.ref (ad 0)), some (.int x1), none] [] w
  unfold f_X7_number at hf
  refine g_aload_n X (i := 0) dX7_number_0 rfl rfl ?_
  refine g_get X (q0 := 0) (v := .int (w.1 4)) 10 dX7_number_1 gC_X7 rfl rfl (by decide) fl_X7_145 rfl rfl ?_
  refine g_istore_n X (i := 2) dX7_number_4 rfl (by decide) rfl ?_
  refine g_aload_n X (i := 0) dX7_number_5 rfl rfl ?_
  refine g_get X (q0 := 0) (v := .ref (ad 7)) 14 dX7_number_6 gC_X7 rfl rfl (by decide) fl_X7_28 rfl rfl ?_
  refine g_iload_n X (i := 1) dX7_number_9 rfl rfl ?_
  refine g_iconst X dX7_number_10 (v := 0) (by decide) ?_
  obtain ⟨hb1, hf⟩ := hfg hf
  refine g_iast X (q0 := 7) (f := w.2 6) dX7_number_11 rfl hb1 (awM_6 ad cI _ _ _) ?_
  obtain ⟨o9, h10, hf⟩ := hfb hf
  refine gl_X7_number_L12 X BIG h10 ?_
  refine g_aload_n X (i := 0) dX7_number_74 rfl rfl ?_
  refine g_get X (q0 := 0) (v := .int (o9.1 4)) 10 dX7_number_75 gC_X7 rfl rfl (by decide) fl_X7_145 rfl rfl ?_
  refine g_iload_n X (i := 2) dX7_number_78 rfl rfl ?_
  refine g_icmp_le X dX7_number_79 (tgt := 86) (by decide) hf (fun c11 hf => ?_) (fun c11 hf => ?_)
  · refine g_iconst X dX7_number_82 (v := 1) (by decide) ?_
    refine g_goto X dX7_number_83 (tgt := 87) (by decide) ?_
    exact g_zret X hr dX7_number_87 rfl hf
  · refine g_iconst X dX7_number_86 (v := 0) (by decide) ?_
    exact g_zret X hr dX7_number_87 rfl hf
def f_X7_sign (x1 : Int32) (w : St) : Option (Int32 × St) := (f_X7_isAt x1 x1 w).bind fun o1 => (if o1.1 = 0 then if o1.1 = 0 ∨ o1.1 = 1 then some (o1.1, sR o1.2 4 ((o1.2.1 4) + 0)) else none else if o1.1 = 0 ∨ o1.1 = 1 then some (o1.1, sR o1.2 4 ((o1.2.1 4) + 1)) else none)
set_option maxRecDepth 100000 in
set_option maxHeartbeats 4000000 in
theorem c_X7_sign {l : Launch} {D : va_G} {cI : ClassId × ClassId} {A : Nat → Prop} {ad : Nat → Nat} {x1 : Int32} {w : St} {o : Int32 × St} (hf : f_X7_sign x1 w = some o) : CTi l D cI A yX7_sign cX7_sign 3 (some .boolean) rm_X7_sign [.ref (ad 0), .int x1] ((wM ad cI) w) o.1 ((wM ad cI) o.2)   := by
  refine CTi.of (by decide +kernel) rfl (Nat.le_of_ble_eq_true rfl) ?_
  intro p e s m args below meth c X hr
  have X : gX p s m args meth c cX7_sign 3 RX7 D cI := X
  show G _ _ _ _ _ _ _ _ _ _ _ _ _ _ _ _ _ 0 [some (.ref (ad 0)), some (.int x1), none] [] w
  unfold f_X7_sign at hf
  refine g_aload_n X (i := 0) dX7_sign_0 rfl rfl ?_
  refine g_iload_n X (i := 1) dX7_sign_1 rfl rfl ?_
  refine g_iload_n X (i := 1) dX7_sign_2 rfl rfl ?_
  obtain ⟨o1, h2, hf⟩ := hfb hf
  refine g_Vi X (q0 := 0) (As := [.int x1, .int x1]) (rest := []) (c_X7_isAt h2) dX7_sign_3 ml_X7_148 yv_X7_isAt rfl rfl rfl rfl ⟨Nat.le_of_ble_eq_true rfl, Nat.le_of_ble_eq_true rfl⟩ ⟨rfl, rfl⟩ (Nat.le_of_ble_eq_true rfl) ⟨Nat.le_of_ble_eq_true rfl, Nat.le_of_ble_eq_true rfl⟩ ?_
  refine g_istore_n X (i := 2) dX7_sign_6 rfl (by decide) rfl ?_
  refine g_aload_n X (i := 0) dX7_sign_7 rfl rfl ?_
  refine g_dup X dX7_sign_8 rfl ?_
  refine g_get X (q0 := 0) (v := .int (o1.2.1 4)) 10 dX7_sign_9 gC_X7 rfl rfl (by decide) fl_X7_145 rfl rfl ?_
  refine g_iload_n X (i := 2) dX7_sign_12 rfl rfl ?_
  refine g_if_eq X dX7_sign_13 (tgt := 20) (by decide) hf (fun c3 hf => ?_) (fun c3 hf => ?_)
  · refine g_iconst X dX7_sign_20 (v := 0) (by decide) ?_
    refine g_iadd X dX7_sign_21 ?_
    refine g_put X (q0 := 0) 10 dX7_sign_22 gC_X7 rfl rfl (by decide) fl_X7_145 rfl rfl rfl rfl (Nat.le_of_ble_eq_true rfl) (pwM_4 ad cI _ _) ?_
    refine g_iload_n X (i := 2) dX7_sign_25 rfl rfl ?_
    obtain ⟨hz4, hf⟩ := hfg hf
    exact g_zret X hr dX7_sign_26 (zb hz4) hf
  · refine g_iconst X dX7_sign_16 (v := 1) (by decide) ?_
    refine g_goto X dX7_sign_17 (tgt := 21) (by decide) ?_
    refine g_iadd X dX7_sign_21 ?_
    refine g_put X (q0 := 0) 10 dX7_sign_22 gC_X7 rfl rfl (by decide) fl_X7_145 rfl rfl rfl rfl (Nat.le_of_ble_eq_true rfl) (pwM_4 ad cI _ _) ?_
    refine g_iload_n X (i := 2) dX7_sign_25 rfl rfl ?_
    obtain ⟨hz5, hf⟩ := hfg hf
    exact g_zret X hr dX7_sign_26 (zb hz5) hf
def f_X7_target (x1 : Int32) (w : St) : Option (Int32 × St) := (f_X7_sign 45 w).bind fun o1 => (if o1.1 = 0 then (f_X7_number x1 o1.2).bind fun o4 => if o4.1 = 0 ∨ o4.1 = 1 then some (o4.1, o4.2) else none else if ib x1 3 then some (1, sA o1.2 6 x1 (-1)) else none)
set_option maxRecDepth 100000 in
set_option maxHeartbeats 4000000 in
theorem c_X7_target {l : Launch} {D : va_G} {cI : ClassId × ClassId} {A : Nat → Prop} {ad : Nat → Nat} {x1 : Int32} {w : St} {o : Int32 × St} (hf : f_X7_target x1 w = some o) : CTi l D cI A yX7_target cX7_target 2 (some .boolean) rm_X7_target [.ref (ad 0), .int x1] ((wM ad cI) w) o.1 ((wM ad cI) o.2)   := by
  refine CTi.of (by decide +kernel) rfl (Nat.le_of_ble_eq_true rfl) ?_
  intro p e s m args below meth c X hr
  have X : gX p s m args meth c cX7_target 2 RX7 D cI := X
  show G _ _ _ _ _ _ _ _ _ _ _ _ _ _ _ _ _ 0 [some (.ref (ad 0)), some (.int x1)] [] w
  unfold f_X7_target at hf
  refine g_aload_n X (i := 0) dX7_target_0 rfl rfl ?_
  refine g_bipush X dX7_target_1 (v := 45) (by decide) ?_
  obtain ⟨o1, h2, hf⟩ := hfb hf
  refine g_Vi X (q0 := 0) (As := [.int 45]) (rest := []) (c_X7_sign h2) dX7_target_3 ml_X7_152 yv_X7_sign rfl rfl rfl rfl ⟨Nat.le_of_ble_eq_true rfl, Nat.le_of_ble_eq_true rfl⟩ ⟨rfl, rfl⟩ (Nat.le_of_ble_eq_true rfl) ⟨Nat.le_of_ble_eq_true rfl, Nat.le_of_ble_eq_true rfl⟩ ?_
  refine g_if_eq X dX7_target_6 (tgt := 18) (by decide) hf (fun c3 hf => ?_) (fun c3 hf => ?_)
  · refine g_aload_n X (i := 0) dX7_target_18 rfl rfl ?_
    refine g_iload_n X (i := 1) dX7_target_19 rfl rfl ?_
    obtain ⟨o4, h5, hf⟩ := hfb hf
    refine g_Vi X (q0 := 0) (As := [.int x1]) (rest := []) (c_X7_number h5) dX7_target_20 ml_X7_155 yv_X7_number rfl rfl rfl rfl ⟨Nat.le_of_ble_eq_true rfl, Nat.le_of_ble_eq_true rfl⟩ ⟨rfl, rfl⟩ (Nat.le_of_ble_eq_true rfl) ⟨Nat.le_of_ble_eq_true rfl, Nat.le_of_ble_eq_true rfl⟩ ?_
    obtain ⟨hz6, hf⟩ := hfg hf
    exact g_zret X hr dX7_target_23 (zb hz6) hf
  · refine g_aload_n X (i := 0) dX7_target_9 rfl rfl ?_
    refine g_get X (q0 := 0) (v := .ref (ad 7)) 14 dX7_target_10 gC_X7 rfl rfl (by decide) fl_X7_28 rfl rfl ?_
    refine g_iload_n X (i := 1) dX7_target_13 rfl rfl ?_
    refine g_iconst X dX7_target_14 (v := (-1)) (by decide) ?_
    obtain ⟨hb7, hf⟩ := hfg hf
    refine g_iast X (q0 := 7) (f := o1.2.2 6) dX7_target_15 rfl hb7 (awM_6 ad cI _ _ _) ?_
    refine g_iconst X dX7_target_16 (v := 1) (by decide) ?_
    exact g_zret X hr dX7_target_17 rfl hf
def f_X7_reads (w : St) : Option (Int32 × St) := if ib (w.1 4) 60 then (if (w.2 5 (w.1 4).toNatClampNeg) = 98 then (f_X7_sign 59 (sR (sR w 7 (w.2 5 (w.1 4).toNatClampNeg)) 4 ((w.1 4) + 1))).bind fun o3 => if o3.1 = 0 ∨ o3.1 = 1 then some (o3.1, o3.2) else none else (if (w.2 5 (w.1 4).toNatClampNeg) = 102 then (f_X7_number 0 (sR (sR w 7 (w.2 5 (w.1 4).toNatClampNeg)) 4 ((w.1 4) + 1))).bind fun o7 => (if o7.1 = 0 then some (0, o7.2) else (f_X7_sign 44 o7.2).bind fun o10 => (if o10.1 = 0 then some (0, o10.2) else (f_X7_number 1 o10.2).bind fun o13 => (if o13.1 = 0 then some (0, o13.2) else (f_X7_sign 44 o13.2).bind fun o16 => (if o16.1 = 0 then some (0, o16.2) else (f_X7_target 2 o16.2).bind fun o19 => (if o19.1 = 0 then some (0, o19.2) else (f_X7_sign 59 o19.2).bind fun o22 => (if o22.1 = 0 then some (0, o22.2) else some (1, o22.2))))))) else (if (w.2 5 (w.1 4).toNatClampNeg) = 110 then (f_X7_number 0 (sR (sR w 7 (w.2 5 (w.1 4).toNatClampNeg)) 4 ((w.1 4) + 1))).bind fun o26 => (if o26.1 = 0 then some (0, o26.2) else (f_X7_sign 59 o26.2).bind fun o29 => (if o29.1 = 0 then some (0, o29.2) else some (1, o29.2))) else (if (w.2 5 (w.1 4).toNatClampNeg) = 114 then (f_X7_number 0 (sR (sR w 7 (w.2 5 (w.1 4).toNatClampNeg)) 4 ((w.1 4) + 1))).bind fun o33 => (if o33.1 = 0 then some (0, o33.2) else (f_X7_sign 44 o33.2).bind fun o36 => (if o36.1 = 0 then some (0, o36.2) else (f_X7_target 1 o36.2).bind fun o39 => (if o39.1 = 0 then some (0, o39.2) else (f_X7_sign 59 o39.2).bind fun o42 => (if o42.1 = 0 then some (0, o42.2) else some (1, o42.2))))) else (if (w.2 5 (w.1 4).toNatClampNeg) = 115 then (f_X7_number 0 (sR (sR w 7 (w.2 5 (w.1 4).toNatClampNeg)) 4 ((w.1 4) + 1))).bind fun o46 => (if o46.1 = 0 then some (0, o46.2) else (f_X7_sign 59 o46.2).bind fun o49 => (if o49.1 = 0 then some (0, o49.2) else some (1, o49.2))) else some (0, sR (sR w 7 (w.2 5 (w.1 4).toNatClampNeg)) 4 ((w.1 4) + 1))))))) else none
set_option maxRecDepth 100000 in
set_option maxHeartbeats 4000000 in
theorem c_X7_reads {l : Launch} {D : va_G} {cI : ClassId × ClassId} {A : Nat → Prop} {ad : Nat → Nat} {w : St} {o : Int32 × St} (hf : f_X7_reads w = some o) : CTi l D cI A yX7_reads cX7_reads 1 (some .boolean) rm_X7_reads [.ref (ad 0)] ((wM ad cI) w) o.1 ((wM ad cI) o.2)   := by
  refine CTi.of (by decide +kernel) rfl (Nat.le_of_ble_eq_true rfl) ?_
  intro p e s m args below meth c X hr
  have X : gX p s m args meth c cX7_reads 1 RX7 D cI := X
  show G _ _ _ _ _ _ _ _ _ _ _ _ _ _ _ _ _ 0 [some (.ref (ad 0))] [] w
  unfold f_X7_reads at hf
  refine g_aload_n X (i := 0) dX7_reads_0 rfl rfl ?_
  refine g_aload_n X (i := 0) dX7_reads_1 rfl rfl ?_
  refine g_get X (q0 := 0) (v := .ref (ad 6)) 8 dX7_reads_2 gC_X7 rfl rfl (by decide) fl_X7_25 rfl rfl ?_
  refine g_aload_n X (i := 0) dX7_reads_5 rfl rfl ?_
  refine g_get X (q0 := 0) (v := .int (w.1 4)) 10 dX7_reads_6 gC_X7 rfl rfl (by decide) fl_X7_145 rfl rfl ?_
  obtain ⟨hb1, hf⟩ := hfg hf
  refine g_iald X (q0 := 6) (f := w.2 5) dX7_reads_9 rfl hb1 ?_
  refine g_put X (q0 := 0) 13 dX7_reads_10 gC_X7 rfl rfl (by decide) fl_X7_158 rfl rfl rfl rfl (Nat.le_of_ble_eq_true rfl) (pwM_7 ad cI _ _) ?_
  refine g_aload_n X (i := 0) dX7_reads_13 rfl rfl ?_
  refine g_dup X dX7_reads_14 rfl ?_
  refine g_get X (q0 := 0) (v := .int (w.1 4)) 10 dX7_reads_15 gC_X7 rfl rfl (by decide) fl_X7_145 rfl rfl ?_
  refine g_iconst X dX7_reads_18 (v := 1) (by decide) ?_
  refine g_iadd X dX7_reads_19 ?_
  refine g_put X (q0 := 0) 10 dX7_reads_20 gC_X7 rfl rfl (by decide) fl_X7_145 rfl rfl rfl rfl (Nat.le_of_ble_eq_true rfl) (pwM_4 ad cI _ _) ?_
  refine g_aload_n X (i := 0) dX7_reads_23 rfl rfl ?_
  refine g_get X (q0 := 0) (v := .int (w.2 5 (w.1 4).toNatClampNeg)) 13 dX7_reads_24 gC_X7 rfl rfl (by decide) fl_X7_158 rfl rfl ?_
  rcases hfi (q := (w.2 5 (w.1 4).toNatClampNeg) = 98) hf with ⟨c2, hf⟩ | ⟨c2, hf⟩
  · refine g_lookup X (off := 49) dX7_reads_27 rfl (by first | (rw [c2]; done) | (rw [c2]; rfl)) (tgt := 76) (by decide) ?_
    refine g_aload_n X (i := 0) dX7_reads_76 rfl rfl ?_
    refine g_bipush X dX7_reads_77 (v := 59) (by decide) ?_
    obtain ⟨o3, h4, hf⟩ := hfb hf
    refine g_Vi X (q0 := 0) (As := [.int 59]) (rest := []) (c_X7_sign h4) dX7_reads_79 ml_X7_152 yv_X7_sign rfl rfl rfl rfl ⟨Nat.le_of_ble_eq_true rfl, Nat.le_of_ble_eq_true rfl⟩ ⟨rfl, rfl⟩ (Nat.le_of_ble_eq_true rfl) ⟨Nat.le_of_ble_eq_true rfl, Nat.le_of_ble_eq_true rfl⟩ ?_
    obtain ⟨hz5, hf⟩ := hfg hf
    exact g_zret X hr dX7_reads_82 (zb hz5) hf
  rcases hfi (q := (w.2 5 (w.1 4).toNatClampNeg) = 102) hf with ⟨c6, hf⟩ | ⟨c6, hf⟩
  · refine g_lookup X (off := 119) dX7_reads_27 rfl (by first | (rw [c6]; done) | (rw [c6]; rfl)) (tgt := 146) (by decide) ?_
    refine g_aload_n X (i := 0) dX7_reads_146 rfl rfl ?_
    refine g_iconst X dX7_reads_147 (v := 0) (by decide) ?_
    obtain ⟨o7, h8, hf⟩ := hfb hf
    refine g_Vi X (q0 := 0) (As := [.int 0]) (rest := []) (c_X7_number h8) dX7_reads_148 ml_X7_155 yv_X7_number rfl rfl rfl rfl ⟨Nat.le_of_ble_eq_true rfl, Nat.le_of_ble_eq_true rfl⟩ ⟨rfl, rfl⟩ (Nat.le_of_ble_eq_true rfl) ⟨Nat.le_of_ble_eq_true rfl, Nat.le_of_ble_eq_true rfl⟩ ?_
    refine g_if_eq X dX7_reads_151 (tgt := 201) (by decide) hf (fun c9 hf => ?_) (fun c9 hf => ?_)
    · refine g_iconst X dX7_reads_201 (v := 0) (by decide) ?_
      exact g_zret X hr dX7_reads_202 rfl hf
    · refine g_aload_n X (i := 0) dX7_reads_154 rfl rfl ?_
      refine g_bipush X dX7_reads_155 (v := 44) (by decide) ?_
      obtain ⟨o10, h11, hf⟩ := hfb hf
      refine g_Vi X (q0 := 0) (As := [.int 44]) (rest := []) (c_X7_sign h11) dX7_reads_157 ml_X7_152 yv_X7_sign rfl rfl rfl rfl ⟨Nat.le_of_ble_eq_true rfl, Nat.le_of_ble_eq_true rfl⟩ ⟨rfl, rfl⟩ (Nat.le_of_ble_eq_true rfl) ⟨Nat.le_of_ble_eq_true rfl, Nat.le_of_ble_eq_true rfl⟩ ?_
      refine g_if_eq X dX7_reads_160 (tgt := 201) (by decide) hf (fun c12 hf => ?_) (fun c12 hf => ?_)
      · refine g_iconst X dX7_reads_201 (v := 0) (by decide) ?_
        exact g_zret X hr dX7_reads_202 rfl hf
      · refine g_aload_n X (i := 0) dX7_reads_163 rfl rfl ?_
        refine g_iconst X dX7_reads_164 (v := 1) (by decide) ?_
        obtain ⟨o13, h14, hf⟩ := hfb hf
        refine g_Vi X (q0 := 0) (As := [.int 1]) (rest := []) (c_X7_number h14) dX7_reads_165 ml_X7_155 yv_X7_number rfl rfl rfl rfl ⟨Nat.le_of_ble_eq_true rfl, Nat.le_of_ble_eq_true rfl⟩ ⟨rfl, rfl⟩ (Nat.le_of_ble_eq_true rfl) ⟨Nat.le_of_ble_eq_true rfl, Nat.le_of_ble_eq_true rfl⟩ ?_
        refine g_if_eq X dX7_reads_168 (tgt := 201) (by decide) hf (fun c15 hf => ?_) (fun c15 hf => ?_)
        · refine g_iconst X dX7_reads_201 (v := 0) (by decide) ?_
          exact g_zret X hr dX7_reads_202 rfl hf
        · refine g_aload_n X (i := 0) dX7_reads_171 rfl rfl ?_
          refine g_bipush X dX7_reads_172 (v := 44) (by decide) ?_
          obtain ⟨o16, h17, hf⟩ := hfb hf
          refine g_Vi X (q0 := 0) (As := [.int 44]) (rest := []) (c_X7_sign h17) dX7_reads_174 ml_X7_152 yv_X7_sign rfl rfl rfl rfl ⟨Nat.le_of_ble_eq_true rfl, Nat.le_of_ble_eq_true rfl⟩ ⟨rfl, rfl⟩ (Nat.le_of_ble_eq_true rfl) ⟨Nat.le_of_ble_eq_true rfl, Nat.le_of_ble_eq_true rfl⟩ ?_
          refine g_if_eq X dX7_reads_177 (tgt := 201) (by decide) hf (fun c18 hf => ?_) (fun c18 hf => ?_)
          · refine g_iconst X dX7_reads_201 (v := 0) (by decide) ?_
            exact g_zret X hr dX7_reads_202 rfl hf
          · refine g_aload_n X (i := 0) dX7_reads_180 rfl rfl ?_
            refine g_iconst X dX7_reads_181 (v := 2) (by decide) ?_
            obtain ⟨o19, h20, hf⟩ := hfb hf
            refine g_Vi X (q0 := 0) (As := [.int 2]) (rest := []) (c_X7_target h20) dX7_reads_182 ml_X7_161 yv_X7_target rfl rfl rfl rfl ⟨Nat.le_of_ble_eq_true rfl, Nat.le_of_ble_eq_true rfl⟩ ⟨rfl, rfl⟩ (Nat.le_of_ble_eq_true rfl) ⟨Nat.le_of_ble_eq_true rfl, Nat.le_of_ble_eq_true rfl⟩ ?_
            refine g_if_eq X dX7_reads_185 (tgt := 201) (by decide) hf (fun c21 hf => ?_) (fun c21 hf => ?_)
            · refine g_iconst X dX7_reads_201 (v := 0) (by decide) ?_
              exact g_zret X hr dX7_reads_202 rfl hf
            · refine g_aload_n X (i := 0) dX7_reads_188 rfl rfl ?_
              refine g_bipush X dX7_reads_189 (v := 59) (by decide) ?_
              obtain ⟨o22, h23, hf⟩ := hfb hf
              refine g_Vi X (q0 := 0) (As := [.int 59]) (rest := []) (c_X7_sign h23) dX7_reads_191 ml_X7_152 yv_X7_sign rfl rfl rfl rfl ⟨Nat.le_of_ble_eq_true rfl, Nat.le_of_ble_eq_true rfl⟩ ⟨rfl, rfl⟩ (Nat.le_of_ble_eq_true rfl) ⟨Nat.le_of_ble_eq_true rfl, Nat.le_of_ble_eq_true rfl⟩ ?_
              refine g_if_eq X dX7_reads_194 (tgt := 201) (by decide) hf (fun c24 hf => ?_) (fun c24 hf => ?_)
              · refine g_iconst X dX7_reads_201 (v := 0) (by decide) ?_
                exact g_zret X hr dX7_reads_202 rfl hf
              · refine g_iconst X dX7_reads_197 (v := 1) (by decide) ?_
                refine g_goto X dX7_reads_198 (tgt := 202) (by decide) ?_
                exact g_zret X hr dX7_reads_202 rfl hf
  rcases hfi (q := (w.2 5 (w.1 4).toNatClampNeg) = 110) hf with ⟨c25, hf⟩ | ⟨c25, hf⟩
  · refine g_lookup X (off := 56) dX7_reads_27 rfl (by first | (rw [c25]; done) | (rw [c25]; rfl)) (tgt := 83) (by decide) ?_
    refine g_aload_n X (i := 0) dX7_reads_83 rfl rfl ?_
    refine g_iconst X dX7_reads_84 (v := 0) (by decide) ?_
    obtain ⟨o26, h27, hf⟩ := hfb hf
    refine g_Vi X (q0 := 0) (As := [.int 0]) (rest := []) (c_X7_number h27) dX7_reads_85 ml_X7_155 yv_X7_number rfl rfl rfl rfl ⟨Nat.le_of_ble_eq_true rfl, Nat.le_of_ble_eq_true rfl⟩ ⟨rfl, rfl⟩ (Nat.le_of_ble_eq_true rfl) ⟨Nat.le_of_ble_eq_true rfl, Nat.le_of_ble_eq_true rfl⟩ ?_
    refine g_if_eq X dX7_reads_88 (tgt := 104) (by decide) hf (fun c28 hf => ?_) (fun c28 hf => ?_)
    · refine g_iconst X dX7_reads_104 (v := 0) (by decide) ?_
      exact g_zret X hr dX7_reads_105 rfl hf
    · refine g_aload_n X (i := 0) dX7_reads_91 rfl rfl ?_
      refine g_bipush X dX7_reads_92 (v := 59) (by decide) ?_
      obtain ⟨o29, h30, hf⟩ := hfb hf
      refine g_Vi X (q0 := 0) (As := [.int 59]) (rest := []) (c_X7_sign h30) dX7_reads_94 ml_X7_152 yv_X7_sign rfl rfl rfl rfl ⟨Nat.le_of_ble_eq_true rfl, Nat.le_of_ble_eq_true rfl⟩ ⟨rfl, rfl⟩ (Nat.le_of_ble_eq_true rfl) ⟨Nat.le_of_ble_eq_true rfl, Nat.le_of_ble_eq_true rfl⟩ ?_
      refine g_if_eq X dX7_reads_97 (tgt := 104) (by decide) hf (fun c31 hf => ?_) (fun c31 hf => ?_)
      · refine g_iconst X dX7_reads_104 (v := 0) (by decide) ?_
        exact g_zret X hr dX7_reads_105 rfl hf
      · refine g_iconst X dX7_reads_100 (v := 1) (by decide) ?_
        refine g_goto X dX7_reads_101 (tgt := 105) (by decide) ?_
        exact g_zret X hr dX7_reads_105 rfl hf
  rcases hfi (q := (w.2 5 (w.1 4).toNatClampNeg) = 114) hf with ⟨c32, hf⟩ | ⟨c32, hf⟩
  · refine g_lookup X (off := 79) dX7_reads_27 rfl (by first | (rw [c32]; done) | (rw [c32]; rfl)) (tgt := 106) (by decide) ?_
    refine g_aload_n X (i := 0) dX7_reads_106 rfl rfl ?_
    refine g_iconst X dX7_reads_107 (v := 0) (by decide) ?_
    obtain ⟨o33, h34, hf⟩ := hfb hf
    refine g_Vi X (q0 := 0) (As := [.int 0]) (rest := []) (c_X7_number h34) dX7_reads_108 ml_X7_155 yv_X7_number rfl rfl rfl rfl ⟨Nat.le_of_ble_eq_true rfl, Nat.le_of_ble_eq_true rfl⟩ ⟨rfl, rfl⟩ (Nat.le_of_ble_eq_true rfl) ⟨Nat.le_of_ble_eq_true rfl, Nat.le_of_ble_eq_true rfl⟩ ?_
    refine g_if_eq X dX7_reads_111 (tgt := 144) (by decide) hf (fun c35 hf => ?_) (fun c35 hf => ?_)
    · refine g_iconst X dX7_reads_144 (v := 0) (by decide) ?_
      exact g_zret X hr dX7_reads_145 rfl hf
    · refine g_aload_n X (i := 0) dX7_reads_114 rfl rfl ?_
      refine g_bipush X dX7_reads_115 (v := 44) (by decide) ?_
      obtain ⟨o36, h37, hf⟩ := hfb hf
      refine g_Vi X (q0 := 0) (As := [.int 44]) (rest := []) (c_X7_sign h37) dX7_reads_117 ml_X7_152 yv_X7_sign rfl rfl rfl rfl ⟨Nat.le_of_ble_eq_true rfl, Nat.le_of_ble_eq_true rfl⟩ ⟨rfl, rfl⟩ (Nat.le_of_ble_eq_true rfl) ⟨Nat.le_of_ble_eq_true rfl, Nat.le_of_ble_eq_true rfl⟩ ?_
      refine g_if_eq X dX7_reads_120 (tgt := 144) (by decide) hf (fun c38 hf => ?_) (fun c38 hf => ?_)
      · refine g_iconst X dX7_reads_144 (v := 0) (by decide) ?_
        exact g_zret X hr dX7_reads_145 rfl hf
      · refine g_aload_n X (i := 0) dX7_reads_123 rfl rfl ?_
        refine g_iconst X dX7_reads_124 (v := 1) (by decide) ?_
        obtain ⟨o39, h40, hf⟩ := hfb hf
        refine g_Vi X (q0 := 0) (As := [.int 1]) (rest := []) (c_X7_target h40) dX7_reads_125 ml_X7_161 yv_X7_target rfl rfl rfl rfl ⟨Nat.le_of_ble_eq_true rfl, Nat.le_of_ble_eq_true rfl⟩ ⟨rfl, rfl⟩ (Nat.le_of_ble_eq_true rfl) ⟨Nat.le_of_ble_eq_true rfl, Nat.le_of_ble_eq_true rfl⟩ ?_
        refine g_if_eq X dX7_reads_128 (tgt := 144) (by decide) hf (fun c41 hf => ?_) (fun c41 hf => ?_)
        · refine g_iconst X dX7_reads_144 (v := 0) (by decide) ?_
          exact g_zret X hr dX7_reads_145 rfl hf
        · refine g_aload_n X (i := 0) dX7_reads_131 rfl rfl ?_
          refine g_bipush X dX7_reads_132 (v := 59) (by decide) ?_
          obtain ⟨o42, h43, hf⟩ := hfb hf
          refine g_Vi X (q0 := 0) (As := [.int 59]) (rest := []) (c_X7_sign h43) dX7_reads_134 ml_X7_152 yv_X7_sign rfl rfl rfl rfl ⟨Nat.le_of_ble_eq_true rfl, Nat.le_of_ble_eq_true rfl⟩ ⟨rfl, rfl⟩ (Nat.le_of_ble_eq_true rfl) ⟨Nat.le_of_ble_eq_true rfl, Nat.le_of_ble_eq_true rfl⟩ ?_
          refine g_if_eq X dX7_reads_137 (tgt := 144) (by decide) hf (fun c44 hf => ?_) (fun c44 hf => ?_)
          · refine g_iconst X dX7_reads_144 (v := 0) (by decide) ?_
            exact g_zret X hr dX7_reads_145 rfl hf
          · refine g_iconst X dX7_reads_140 (v := 1) (by decide) ?_
            refine g_goto X dX7_reads_141 (tgt := 145) (by decide) ?_
            exact g_zret X hr dX7_reads_145 rfl hf
  rcases hfi (q := (w.2 5 (w.1 4).toNatClampNeg) = 115) hf with ⟨c45, hf⟩ | ⟨c45, hf⟩
  · refine g_lookup X (off := 56) dX7_reads_27 rfl (by first | (rw [c45]; done) | (rw [c45]; rfl)) (tgt := 83) (by decide) ?_
    refine g_aload_n X (i := 0) dX7_reads_83 rfl rfl ?_
    refine g_iconst X dX7_reads_84 (v := 0) (by decide) ?_
    obtain ⟨o46, h47, hf⟩ := hfb hf
    refine g_Vi X (q0 := 0) (As := [.int 0]) (rest := []) (c_X7_number h47) dX7_reads_85 ml_X7_155 yv_X7_number rfl rfl rfl rfl ⟨Nat.le_of_ble_eq_true rfl, Nat.le_of_ble_eq_true rfl⟩ ⟨rfl, rfl⟩ (Nat.le_of_ble_eq_true rfl) ⟨Nat.le_of_ble_eq_true rfl, Nat.le_of_ble_eq_true rfl⟩ ?_
    refine g_if_eq X dX7_reads_88 (tgt := 104) (by decide) hf (fun c48 hf => ?_) (fun c48 hf => ?_)
    · refine g_iconst X dX7_reads_104 (v := 0) (by decide) ?_
      exact g_zret X hr dX7_reads_105 rfl hf
    · refine g_aload_n X (i := 0) dX7_reads_91 rfl rfl ?_
      refine g_bipush X dX7_reads_92 (v := 59) (by decide) ?_
      obtain ⟨o49, h50, hf⟩ := hfb hf
      refine g_Vi X (q0 := 0) (As := [.int 59]) (rest := []) (c_X7_sign h50) dX7_reads_94 ml_X7_152 yv_X7_sign rfl rfl rfl rfl ⟨Nat.le_of_ble_eq_true rfl, Nat.le_of_ble_eq_true rfl⟩ ⟨rfl, rfl⟩ (Nat.le_of_ble_eq_true rfl) ⟨Nat.le_of_ble_eq_true rfl, Nat.le_of_ble_eq_true rfl⟩ ?_
      refine g_if_eq X dX7_reads_97 (tgt := 104) (by decide) hf (fun c51 hf => ?_) (fun c51 hf => ?_)
      · refine g_iconst X dX7_reads_104 (v := 0) (by decide) ?_
        exact g_zret X hr dX7_reads_105 rfl hf
      · refine g_iconst X dX7_reads_100 (v := 1) (by decide) ?_
        refine g_goto X dX7_reads_101 (tgt := 105) (by decide) ?_
        exact g_zret X hr dX7_reads_105 rfl hf
  refine g_lookup X (off := 176) dX7_reads_27 rfl (show Op.lookupswitch.offset [(98, 49), (102, 119), (110, 56), (114, 79), (115, 56)] (176) ((w.2 5 (w.1 4).toNatClampNeg)).toInt = 176 by first | (rw [lv_osw c2 (by decide), lv_osw c6 (by decide), lv_osw c25 (by decide), lv_osw c32 (by decide), lv_osw c45 (by decide)]; done) | (rw [lv_osw c2 (by decide), lv_osw c6 (by decide), lv_osw c25 (by decide), lv_osw c32 (by decide), lv_osw c45 (by decide)]; rfl)) (tgt := 203) (by decide) ?_
  refine g_iconst X dX7_reads_203 (v := 0) (by decide) ?_
  exact g_zret X hr dX7_reads_204 rfl hf
def f_X7_plays_L19 : Nat → Int32 → Int32 → St → Option (Int32 × Int32 × St)
  | 0, _, _, _ => none
  | n + 1, x1, x2, w => (if (w.1 4) < (w.1 3) then (if x2 = 0 then some (x1, x2, w) else (f_X7_reads w).bind fun o3 => (if o3.1 = 0 then (if o3.1 = 0 then f_X7_plays_L19 n (w.1 4) 0 (sR (sR o3.2 5 0) 6 ((o3.2.1 6) + 1)) else (if (0 : Int32) < (-1) then f_X7_plays_L19 n (w.1 4) 0 (sR (sR o3.2 5 0) 6 ((o3.2.1 6) + 1)) else f_X7_plays_L19 n (w.1 4) 1 (sR (sR o3.2 5 0) 6 ((o3.2.1 6) + 1)))) else (f_X7_calls o3.2).bind fun o8 => (if o3.1 = 0 then f_X7_plays_L19 n (w.1 4) 0 (sR (sR o8.2 5 o8.1) 6 ((o8.2.1 6) + 1)) else (if o8.1 < (-1) then f_X7_plays_L19 n (w.1 4) 0 (sR (sR o8.2 5 o8.1) 6 ((o8.2.1 6) + 1)) else f_X7_plays_L19 n (w.1 4) 1 (sR (sR o8.2 5 o8.1) 6 ((o8.2.1 6) + 1)))))) else some (x1, x2, w))
def f_X7_plays (w : St) : Option (Int32 × St) := (f_X7_plays_L19 BIG 0 1 (sR (sR (sR w 2 1) 4 0) 6 0)).bind fun o12 => (if o12.2.1 = 0 then some (o12.1, sR o12.2.2 2 0) else some ((-14), sR o12.2.2 2 0))
set_option maxRecDepth 100000 in
set_option maxHeartbeats 4000000 in
theorem gl_X7_plays_L19 {p : Program} {l : Launch} {e : Env} {s : State} {m : MethodId} {args : Array Value} {below : List Frame} {meth : Method} {c : Code} {D : va_G} {A : Nat → Prop} {cI : ClassId × ClassId} {ad : Nat → Nat} {Q : State → Prop} {o : Int32 × Int32 × St} (X : gX p s m args meth c cX7_plays 4 RX7 D cI) (n : Nat) : ∀ {x1 x2 : Int32} {w : St}, f_X7_plays_L19 n x1 x2 w = some o → G p l e rm_X7_plays s m args below meth c D A 4 Q (wM ad cI) 0 0 91 [some (.ref (ad 0)), some (.int o.1), some (.int o.2.1), none] [] o.2.2 → G p l e rm_X7_plays s m args below meth c D A 4 Q (wM ad cI) 0 0 19 [some (.ref (ad 0)), some (.int x1), some (.int x2), none] [] w := by
  induction n with
  | zero => intro x1 x2 w hf; cases hf
  | succ n ih =>
    intro x1 x2 w hf k
    rw [f_X7_plays_L19] at hf
    refine g_aload_n X (i := 0) dX7_plays_19 rfl rfl ?_
    refine g_get X (q0 := 0) (v := .int (w.1 4)) 10 dX7_plays_20 gC_X7 rfl rfl (by decide) fl_X7_145 rfl rfl ?_
    refine g_aload_n X (i := 0) dX7_plays_23 rfl rfl ?_
    refine g_get X (q0 := 0) (v := .int (w.1 3)) 9 dX7_plays_24 gC_X7 rfl rfl (by decide) fl_X7_132 rfl rfl ?_
    refine g_icmp_ge X dX7_plays_27 (tgt := 91) (by decide) hf (fun c1 hf => ?_) (fun c1 hf => ?_)
    · refine g_iload_n X (i := 2) dX7_plays_30 rfl rfl ?_
      refine g_if_eq X dX7_plays_31 (tgt := 91) (by decide) hf (fun c2 hf => ?_) (fun c2 hf => ?_)
      · obtain rfl := Option.some.inj hf
        exact k
      · refine g_aload_n X (i := 0) dX7_plays_34 rfl rfl ?_
        refine g_get X (q0 := 0) (v := .int (w.1 4)) 10 dX7_plays_35 gC_X7 rfl rfl (by decide) fl_X7_145 rfl rfl ?_
        refine g_istore_n X (i := 1) dX7_plays_38 rfl (by decide) rfl ?_
        refine g_aload_n X (i := 0) dX7_plays_39 rfl rfl ?_
        obtain ⟨o3, h4, hf⟩ := hfb hf
        refine g_Vi X (q0 := 0) (As := []) (rest := []) (c_X7_reads h4) dX7_plays_40 ml_X7_183 yv_X7_reads rfl rfl rfl rfl ⟨Nat.le_of_ble_eq_true rfl, Nat.le_of_ble_eq_true rfl⟩ ⟨rfl, rfl⟩ (Nat.le_of_ble_eq_true rfl) ⟨Nat.le_of_ble_eq_true rfl, Nat.le_of_ble_eq_true rfl⟩ ?_
        refine g_istore_n X (i := 3) dX7_plays_43 rfl (by decide) rfl ?_
        refine g_aload_n X (i := 0) dX7_plays_44 rfl rfl ?_
        refine g_iload_n X (i := 3) dX7_plays_45 rfl rfl ?_
        refine g_if_eq X dX7_plays_46 (tgt := 56) (by decide) hf (fun c5 hf => ?_) (fun c5 hf => ?_)
        · refine g_iconst X dX7_plays_56 (v := 0) (by decide) ?_
          refine g_put X (q0 := 0) 11 dX7_plays_57 gC_X7 rfl rfl (by decide) fl_X7_189 rfl rfl rfl rfl (Nat.le_of_ble_eq_true rfl) (pwM_5 ad cI _ _) ?_
          refine g_iload_n X (i := 3) dX7_plays_60 rfl rfl ?_
          refine g_if_eq X dX7_plays_61 (tgt := 76) (by decide) hf (fun c6 hf => ?_) (fun c6 hf => ?_)
          · refine g_iconst X dX7_plays_76 (v := 0) (by decide) ?_
            refine g_istore_n X (i := 2) dX7_plays_77 rfl (by decide) rfl ?_
            refine g_aload_n X (i := 0) dX7_plays_78 rfl rfl ?_
            refine g_dup X dX7_plays_79 rfl ?_
            refine g_get X (q0 := 0) (v := .int (o3.2.1 6)) 12 dX7_plays_80 gC_X7 rfl rfl (by decide) fl_X7_180 rfl rfl ?_
            refine g_iconst X dX7_plays_83 (v := 1) (by decide) ?_
            refine g_iadd X dX7_plays_84 ?_
            refine g_put X (q0 := 0) 12 dX7_plays_85 gC_X7 rfl rfl (by decide) fl_X7_180 rfl rfl rfl rfl (Nat.le_of_ble_eq_true rfl) (pwM_6 ad cI _ _) ?_
            refine g_goto X dX7_plays_88 (tgt := 19) (by decide) ?_
            refine g_sub (losub (lo' := [some (.ref (ad 0)), some (.int (w.1 4)), some (.int 0), none]) ⟨rfl, rfl, rfl, trivial⟩) ?_
            exact ih hf k
          · refine g_aload_n X (i := 0) dX7_plays_64 rfl rfl ?_
            refine g_get X (q0 := 0) (v := .int 0) 11 dX7_plays_65 gC_X7 rfl rfl (by decide) fl_X7_189 rfl rfl ?_
            refine g_iconst X dX7_plays_68 (v := (-1)) (by decide) ?_
            refine g_icmp_lt X dX7_plays_69 (tgt := 76) (by decide) hf (fun c7 hf => ?_) (fun c7 hf => ?_)
            · refine g_iconst X dX7_plays_76 (v := 0) (by decide) ?_
              refine g_istore_n X (i := 2) dX7_plays_77 rfl (by decide) rfl ?_
              refine g_aload_n X (i := 0) dX7_plays_78 rfl rfl ?_
              refine g_dup X dX7_plays_79 rfl ?_
              refine g_get X (q0 := 0) (v := .int (o3.2.1 6)) 12 dX7_plays_80 gC_X7 rfl rfl (by decide) fl_X7_180 rfl rfl ?_
              refine g_iconst X dX7_plays_83 (v := 1) (by decide) ?_
              refine g_iadd X dX7_plays_84 ?_
              refine g_put X (q0 := 0) 12 dX7_plays_85 gC_X7 rfl rfl (by decide) fl_X7_180 rfl rfl rfl rfl (Nat.le_of_ble_eq_true rfl) (pwM_6 ad cI _ _) ?_
              refine g_goto X dX7_plays_88 (tgt := 19) (by decide) ?_
              refine g_sub (losub (lo' := [some (.ref (ad 0)), some (.int (w.1 4)), some (.int 0), none]) ⟨rfl, rfl, rfl, trivial⟩) ?_
              exact ih hf k
            · refine g_iconst X dX7_plays_72 (v := 1) (by decide) ?_
              refine g_goto X dX7_plays_73 (tgt := 77) (by decide) ?_
              refine g_istore_n X (i := 2) dX7_plays_77 rfl (by decide) rfl ?_
              refine g_aload_n X (i := 0) dX7_plays_78 rfl rfl ?_
              refine g_dup X dX7_plays_79 rfl ?_
              refine g_get X (q0 := 0) (v := .int (o3.2.1 6)) 12 dX7_plays_80 gC_X7 rfl rfl (by decide) fl_X7_180 rfl rfl ?_
              refine g_iconst X dX7_plays_83 (v := 1) (by decide) ?_
              refine g_iadd X dX7_plays_84 ?_
              refine g_put X (q0 := 0) 12 dX7_plays_85 gC_X7 rfl rfl (by decide) fl_X7_180 rfl rfl rfl rfl (Nat.le_of_ble_eq_true rfl) (pwM_6 ad cI _ _) ?_
              refine g_goto X dX7_plays_88 (tgt := 19) (by decide) ?_
              refine g_sub (losub (lo' := [some (.ref (ad 0)), some (.int (w.1 4)), some (.int 1), none]) ⟨rfl, rfl, rfl, trivial⟩) ?_
              exact ih hf k
        · refine g_aload_n X (i := 0) dX7_plays_49 rfl rfl ?_
          obtain ⟨o8, h9, hf⟩ := hfb hf
          refine g_Vi X (q0 := 0) (As := []) (rest := [.ref (ad 0)]) (c_X7_calls h9) dX7_plays_50 ml_X7_186 yv_X7_calls rfl rfl rfl rfl ⟨Nat.le_of_ble_eq_true rfl, Nat.le_of_ble_eq_true rfl⟩ ⟨rfl, rfl⟩ (Nat.le_of_ble_eq_true rfl) ⟨Nat.le_of_ble_eq_true rfl, Nat.le_of_ble_eq_true rfl⟩ ?_
          refine g_goto X dX7_plays_53 (tgt := 57) (by decide) ?_
          refine g_put X (q0 := 0) 11 dX7_plays_57 gC_X7 rfl rfl (by decide) fl_X7_189 rfl rfl rfl rfl (Nat.le_of_ble_eq_true rfl) (pwM_5 ad cI _ _) ?_
          refine g_iload_n X (i := 3) dX7_plays_60 rfl rfl ?_
          refine g_if_eq X dX7_plays_61 (tgt := 76) (by decide) hf (fun c10 hf => ?_) (fun c10 hf => ?_)
          · refine g_iconst X dX7_plays_76 (v := 0) (by decide) ?_
            refine g_istore_n X (i := 2) dX7_plays_77 rfl (by decide) rfl ?_
            refine g_aload_n X (i := 0) dX7_plays_78 rfl rfl ?_
            refine g_dup X dX7_plays_79 rfl ?_
            refine g_get X (q0 := 0) (v := .int (o8.2.1 6)) 12 dX7_plays_80 gC_X7 rfl rfl (by decide) fl_X7_180 rfl rfl ?_
            refine g_iconst X dX7_plays_83 (v := 1) (by decide) ?_
            refine g_iadd X dX7_plays_84 ?_
            refine g_put X (q0 := 0) 12 dX7_plays_85 gC_X7 rfl rfl (by decide) fl_X7_180 rfl rfl rfl rfl (Nat.le_of_ble_eq_true rfl) (pwM_6 ad cI _ _) ?_
            refine g_goto X dX7_plays_88 (tgt := 19) (by decide) ?_
            refine g_sub (losub (lo' := [some (.ref (ad 0)), some (.int (w.1 4)), some (.int 0), none]) ⟨rfl, rfl, rfl, trivial⟩) ?_
            exact ih hf k
          · refine g_aload_n X (i := 0) dX7_plays_64 rfl rfl ?_
            refine g_get X (q0 := 0) (v := .int o8.1) 11 dX7_plays_65 gC_X7 rfl rfl (by decide) fl_X7_189 rfl rfl ?_
            refine g_iconst X dX7_plays_68 (v := (-1)) (by decide) ?_
            refine g_icmp_lt X dX7_plays_69 (tgt := 76) (by decide) hf (fun c11 hf => ?_) (fun c11 hf => ?_)
            · refine g_iconst X dX7_plays_76 (v := 0) (by decide) ?_
              refine g_istore_n X (i := 2) dX7_plays_77 rfl (by decide) rfl ?_
              refine g_aload_n X (i := 0) dX7_plays_78 rfl rfl ?_
              refine g_dup X dX7_plays_79 rfl ?_
              refine g_get X (q0 := 0) (v := .int (o8.2.1 6)) 12 dX7_plays_80 gC_X7 rfl rfl (by decide) fl_X7_180 rfl rfl ?_
              refine g_iconst X dX7_plays_83 (v := 1) (by decide) ?_
              refine g_iadd X dX7_plays_84 ?_
              refine g_put X (q0 := 0) 12 dX7_plays_85 gC_X7 rfl rfl (by decide) fl_X7_180 rfl rfl rfl rfl (Nat.le_of_ble_eq_true rfl) (pwM_6 ad cI _ _) ?_
              refine g_goto X dX7_plays_88 (tgt := 19) (by decide) ?_
              refine g_sub (losub (lo' := [some (.ref (ad 0)), some (.int (w.1 4)), some (.int 0), none]) ⟨rfl, rfl, rfl, trivial⟩) ?_
              exact ih hf k
            · refine g_iconst X dX7_plays_72 (v := 1) (by decide) ?_
              refine g_goto X dX7_plays_73 (tgt := 77) (by decide) ?_
              refine g_istore_n X (i := 2) dX7_plays_77 rfl (by decide) rfl ?_
              refine g_aload_n X (i := 0) dX7_plays_78 rfl rfl ?_
              refine g_dup X dX7_plays_79 rfl ?_
              refine g_get X (q0 := 0) (v := .int (o8.2.1 6)) 12 dX7_plays_80 gC_X7 rfl rfl (by decide) fl_X7_180 rfl rfl ?_
              refine g_iconst X dX7_plays_83 (v := 1) (by decide) ?_
              refine g_iadd X dX7_plays_84 ?_
              refine g_put X (q0 := 0) 12 dX7_plays_85 gC_X7 rfl rfl (by decide) fl_X7_180 rfl rfl rfl rfl (Nat.le_of_ble_eq_true rfl) (pwM_6 ad cI _ _) ?_
              refine g_goto X dX7_plays_88 (tgt := 19) (by decide) ?_
              refine g_sub (losub (lo' := [some (.ref (ad 0)), some (.int (w.1 4)), some (.int 1), none]) ⟨rfl, rfl, rfl, trivial⟩) ?_
              exact ih hf k
    · obtain rfl := Option.some.inj hf
      exact k
set_option maxRecDepth 100000 in
set_option maxHeartbeats 4000000 in
theorem c_X7_plays {l : Launch} {D : va_G} {cI : ClassId × ClassId} {A : Nat → Prop} {ad : Nat → Nat} {w : St} {o : Int32 × St} (hf : f_X7_plays w = some o) : CTi l D cI A yX7_plays cX7_plays 4 (some .int) rm_X7_plays [.ref (ad 0)] ((wM ad cI) w) o.1 ((wM ad cI) o.2)   := by
  refine CTi.of (by decide +kernel) rfl (Nat.le_of_ble_eq_true rfl) ?_
  intro p e s m args below meth c X hr
  have X : gX p s m args meth c cX7_plays 4 RX7 D cI := X
  show G _ _ _ _ _ _ _ _ _ _ _ _ _ _ _ _ _ 0 [some (.ref (ad 0)), none, none, none] [] w
  unfold f_X7_plays at hf
  refine g_aload_n X (i := 0) dX7_plays_0 rfl rfl ?_
  refine g_iconst X dX7_plays_1 (v := 1) (by decide) ?_
  refine g_put X (q0 := 0) 7 dX7_plays_2 gC_X7 rfl rfl (by decide) fl_X7_31 rfl rfl rfl rfl (Nat.le_of_ble_eq_true rfl) (pwM_2 ad cI _ _) ?_
  refine g_aload_n X (i := 0) dX7_plays_5 rfl rfl ?_
  refine g_iconst X dX7_plays_6 (v := 0) (by decide) ?_
  refine g_put X (q0 := 0) 10 dX7_plays_7 gC_X7 rfl rfl (by decide) fl_X7_145 rfl rfl rfl rfl (Nat.le_of_ble_eq_true rfl) (pwM_4 ad cI _ _) ?_
  refine g_aload_n X (i := 0) dX7_plays_10 rfl rfl ?_
  refine g_iconst X dX7_plays_11 (v := 0) (by decide) ?_
  refine g_put X (q0 := 0) 12 dX7_plays_12 gC_X7 rfl rfl (by decide) fl_X7_180 rfl rfl rfl rfl (Nat.le_of_ble_eq_true rfl) (pwM_6 ad cI _ _) ?_
  refine g_iconst X dX7_plays_15 (v := 0) (by decide) ?_
  refine g_istore_n X (i := 1) dX7_plays_16 rfl (by decide) rfl ?_
  refine g_iconst X dX7_plays_17 (v := 1) (by decide) ?_
  refine g_istore_n X (i := 2) dX7_plays_18 rfl (by decide) rfl ?_
  obtain ⟨o12, h13, hf⟩ := hfb hf
  refine gl_X7_plays_L19 X BIG h13 ?_
  refine g_aload_n X (i := 0) dX7_plays_91 rfl rfl ?_
  refine g_iconst X dX7_plays_92 (v := 0) (by decide) ?_
  refine g_put X (q0 := 0) 7 dX7_plays_93 gC_X7 rfl rfl (by decide) fl_X7_31 rfl rfl rfl rfl (Nat.le_of_ble_eq_true rfl) (pwM_2 ad cI _ _) ?_
  refine g_iload_n X (i := 2) dX7_plays_96 rfl rfl ?_
  refine g_if_eq X dX7_plays_97 (tgt := 105) (by decide) hf (fun c14 hf => ?_) (fun c14 hf => ?_)
  · refine g_iload_n X (i := 1) dX7_plays_105 rfl rfl ?_
    exact g_iret X hr dX7_plays_106 hf
  · refine g_bipush X dX7_plays_100 (v := (-14)) (by decide) ?_
    refine g_goto X dX7_plays_102 (tgt := 106) (by decide) ?_
    exact g_iret X hr dX7_plays_106 hf
def f_X7_fault (x1 : Int32) (w : St) : Option (Int32 × St) := (f_X7_in x1 0 2 w).bind fun o1 => (if o1.1 = 0 then some ((-11), o1.2) else (f_X7_copies_13 o1.2).bind fun o4 => (f_X7_plays o4.2).bind fun o6 => (f_X7_copies_31 o6.2).bind fun o8 => (if o6.1 = (-14) then some (o6.1, o8.2) else (if x1 = 0 then some (o6.1, o8.2) else (if x1 = 1 then (if (o8.2.1 5) = 0 then some (1, o8.2) else some (2, o8.2)) else (if (o8.2.1 5) = 0 then some ((-14), o8.2) else some (o8.2.1 5, o8.2))))))
set_option maxRecDepth 100000 in
set_option maxHeartbeats 4000000 in
theorem c_X7_fault {l : Launch} {D : va_G} {cI : ClassId × ClassId} {A : Nat → Prop} {ad : Nat → Nat} {x1 : Int32} {w : St} {o : Int32 × St} (hf : f_X7_fault x1 w = some o) : CTi l D cI A yX7_fault cX7_fault 3 (some .int) rm_X7_fault [.ref (ad 0), .int x1] ((wM ad cI) w) o.1 ((wM ad cI) o.2)   := by
  refine CTi.of (by decide +kernel) rfl (Nat.le_of_ble_eq_true rfl) ?_
  intro p e s m args below meth c X hr
  have X : gX p s m args meth c cX7_fault 3 RX7 D cI := X
  show G _ _ _ _ _ _ _ _ _ _ _ _ _ _ _ _ _ 0 [some (.ref (ad 0)), some (.int x1), none] [] w
  unfold f_X7_fault at hf
  refine g_iload_n X (i := 1) dX7_fault_0 rfl rfl ?_
  refine g_iconst X dX7_fault_1 (v := 0) (by decide) ?_
  refine g_iconst X dX7_fault_2 (v := 2) (by decide) ?_
  obtain ⟨o1, h2, hf⟩ := hfb hf
  refine g_Si X (As := [.int x1, .int 0, .int 2]) (rest := []) (c_X7_in (wf := (wM ad cI)) h2) dX7_fault_3 ml_X7_39 yv_X7_in rfl rfl ⟨Nat.le_of_ble_eq_true rfl, Nat.le_of_ble_eq_true rfl⟩ ⟨rfl, rfl⟩ (Nat.le_of_ble_eq_true rfl) ⟨Nat.le_of_ble_eq_true rfl, Nat.le_of_ble_eq_true rfl⟩ ?_
  refine g_if_ne X dX7_fault_6 (tgt := 12) (by decide) hf (fun c3 hf => ?_) (fun c3 hf => ?_)
  · refine g_bipush X dX7_fault_9 (v := (-11)) (by decide) ?_
    exact g_iret X hr dX7_fault_11 hf
  · refine g_aload_n X (i := 0) dX7_fault_12 rfl rfl ?_
    refine g_get X (q0 := 0) (v := .ref (ad 1)) 0 dX7_fault_13 gC_X7 rfl rfl (by decide) fl_X7_7 rfl rfl ?_
    refine g_aload_n X (i := 0) dX7_fault_16 rfl rfl ?_
    refine g_get X (q0 := 0) (v := .ref (ad 3)) 2 dX7_fault_17 gC_X7 rfl rfl (by decide) fl_X7_16 rfl rfl ?_
    obtain ⟨o4, h5, hf⟩ := hfb hf
    refine g_Sv X (As := [.ref (ad 1), .ref (ad 3)]) (rest := []) (c_X7_copies_13 h5) dX7_fault_20 ml_X7_138 yv_X7_copies rfl rfl ⟨Nat.le_of_ble_eq_true rfl, Nat.le_of_ble_eq_true rfl⟩ ⟨rfl, rfl⟩ (Nat.le_of_ble_eq_true rfl) ⟨Nat.le_of_ble_eq_true rfl, Nat.le_of_ble_eq_true rfl⟩ ?_
    refine g_aload_n X (i := 0) dX7_fault_23 rfl rfl ?_
    obtain ⟨o6, h7, hf⟩ := hfb hf
    refine g_Vi X (q0 := 0) (As := []) (rest := []) (c_X7_plays h7) dX7_fault_24 ml_X7_192 yv_X7_plays rfl rfl rfl rfl ⟨Nat.le_of_ble_eq_true rfl, Nat.le_of_ble_eq_true rfl⟩ ⟨rfl, rfl⟩ (Nat.le_of_ble_eq_true rfl) ⟨Nat.le_of_ble_eq_true rfl, Nat.le_of_ble_eq_true rfl⟩ ?_
    refine g_istore_n X (i := 2) dX7_fault_27 rfl (by decide) rfl ?_
    refine g_aload_n X (i := 0) dX7_fault_28 rfl rfl ?_
    refine g_get X (q0 := 0) (v := .ref (ad 3)) 2 dX7_fault_29 gC_X7 rfl rfl (by decide) fl_X7_16 rfl rfl ?_
    refine g_aload_n X (i := 0) dX7_fault_32 rfl rfl ?_
    refine g_get X (q0 := 0) (v := .ref (ad 1)) 0 dX7_fault_33 gC_X7 rfl rfl (by decide) fl_X7_7 rfl rfl ?_
    obtain ⟨o8, h9, hf⟩ := hfb hf
    refine g_Sv X (As := [.ref (ad 3), .ref (ad 1)]) (rest := []) (c_X7_copies_31 h9) dX7_fault_36 ml_X7_138 yv_X7_copies rfl rfl ⟨Nat.le_of_ble_eq_true rfl, Nat.le_of_ble_eq_true rfl⟩ ⟨rfl, rfl⟩ (Nat.le_of_ble_eq_true rfl) ⟨Nat.le_of_ble_eq_true rfl, Nat.le_of_ble_eq_true rfl⟩ ?_
    refine g_iload_n X (i := 2) dX7_fault_39 rfl rfl ?_
    refine g_bipush X dX7_fault_40 (v := (-14)) (by decide) ?_
    refine g_icmp_eq X dX7_fault_42 (tgt := 49) (by decide) hf (fun c10 hf => ?_) (fun c10 hf => ?_)
    · refine g_iload_n X (i := 2) dX7_fault_49 rfl rfl ?_
      refine g_goto X dX7_fault_50 (tgt := 89) (by decide) ?_
      exact g_iret X hr dX7_fault_89 hf
    · refine g_iload_n X (i := 1) dX7_fault_45 rfl rfl ?_
      refine g_if_ne X dX7_fault_46 (tgt := 53) (by decide) hf (fun c11 hf => ?_) (fun c11 hf => ?_)
      · refine g_iload_n X (i := 2) dX7_fault_49 rfl rfl ?_
        refine g_goto X dX7_fault_50 (tgt := 89) (by decide) ?_
        exact g_iret X hr dX7_fault_89 hf
      · refine g_iload_n X (i := 1) dX7_fault_53 rfl rfl ?_
        refine g_iconst X dX7_fault_54 (v := 1) (by decide) ?_
        refine g_icmp_ne X dX7_fault_55 (tgt := 73) (by decide) hf (fun c12 hf => ?_) (fun c12 hf => ?_)
        · refine g_aload_n X (i := 0) dX7_fault_58 rfl rfl ?_
          refine g_get X (q0 := 0) (v := .int (o8.2.1 5)) 11 dX7_fault_59 gC_X7 rfl rfl (by decide) fl_X7_189 rfl rfl ?_
          refine g_if_ne X dX7_fault_62 (tgt := 69) (by decide) hf (fun c13 hf => ?_) (fun c13 hf => ?_)
          · refine g_iconst X dX7_fault_65 (v := 1) (by decide) ?_
            refine g_goto X dX7_fault_66 (tgt := 89) (by decide) ?_
            exact g_iret X hr dX7_fault_89 hf
          · refine g_iconst X dX7_fault_69 (v := 2) (by decide) ?_
            refine g_goto X dX7_fault_70 (tgt := 89) (by decide) ?_
            exact g_iret X hr dX7_fault_89 hf
        · refine g_aload_n X (i := 0) dX7_fault_73 rfl rfl ?_
          refine g_get X (q0 := 0) (v := .int (o8.2.1 5)) 11 dX7_fault_74 gC_X7 rfl rfl (by decide) fl_X7_189 rfl rfl ?_
          refine g_if_ne X dX7_fault_77 (tgt := 85) (by decide) hf (fun c14 hf => ?_) (fun c14 hf => ?_)
          · refine g_bipush X dX7_fault_80 (v := (-14)) (by decide) ?_
            refine g_goto X dX7_fault_82 (tgt := 89) (by decide) ?_
            exact g_iret X hr dX7_fault_89 hf
          · refine g_aload_n X (i := 0) dX7_fault_85 rfl rfl ?_
            refine g_get X (q0 := 0) (v := .int (o8.2.1 5)) 11 dX7_fault_86 gC_X7 rfl rfl (by decide) fl_X7_189 rfl rfl ?_
            exact g_iret X hr dX7_fault_89 hf
def f_X7_finish (x1 : Int32) (w : St) : Option (Int32 × St) := (if x1 = (-1) then if ib 193 235 then (if (w.2 0 (193 : Int32).toNatClampNeg) = 0 then some ((-12), w) else (f_X7_changes w).bind fun o4 => (f_X7_takes 193 o4.2).bind fun o6 => (if x1 < 0 then (f_X7_isMarking o6.2).bind fun o9 => (if o9.1 = 0 then if ib 231 235 then if ib 231 235 then some (o6.1, sA o9.2 0 231 ((o9.2.2 0 (231 : Int32).toNatClampNeg) + 1)) else none else none else (if ((-1) : Int32) < 24 then (f_X7_shades o6.1 o9.2).bind fun o15 => if ib 231 235 then if ib 231 235 then some (o6.1, sA o15.2 0 231 ((o15.2.2 0 (231 : Int32).toNatClampNeg) + 1)) else none else none else if ib 231 235 then if ib 231 235 then some (o6.1, sA o9.2 0 231 ((o9.2.2 0 (231 : Int32).toNatClampNeg) + 1)) else none else none)) else (f_X7_writesRoot x1 o6.1 o6.2).bind fun o21 => (f_X7_isMarking o21.2).bind fun o23 => (if o23.1 = 0 then if ib 231 235 then if ib 231 235 then some (o6.1, sA o23.2 0 231 ((o23.2.2 0 (231 : Int32).toNatClampNeg) + 1)) else none else none else (if o21.1 < 24 then (f_X7_shades o6.1 o23.2).bind fun o29 => if ib 231 235 then if ib 231 235 then some (o6.1, sA o29.2 0 231 ((o29.2.2 0 (231 : Int32).toNatClampNeg) + 1)) else none else none else if ib 231 235 then if ib 231 235 then some (o6.1, sA o23.2 0 231 ((o23.2.2 0 (231 : Int32).toNatClampNeg) + 1)) else none else none)))) else none else (f_X7_isRoot x1 w).bind fun o35 => (if o35.1 = 0 then some ((-11), o35.2) else if ib 193 235 then (if (o35.2.2 0 (193 : Int32).toNatClampNeg) = 0 then some ((-12), o35.2) else (f_X7_changes o35.2).bind fun o40 => (f_X7_takes 193 o40.2).bind fun o42 => (if x1 < 0 then (f_X7_isMarking o42.2).bind fun o45 => (if o45.1 = 0 then if ib 231 235 then if ib 231 235 then some (o42.1, sA o45.2 0 231 ((o45.2.2 0 (231 : Int32).toNatClampNeg) + 1)) else none else none else (if ((-1) : Int32) < 24 then (f_X7_shades o42.1 o45.2).bind fun o51 => if ib 231 235 then if ib 231 235 then some (o42.1, sA o51.2 0 231 ((o51.2.2 0 (231 : Int32).toNatClampNeg) + 1)) else none else none else if ib 231 235 then if ib 231 235 then some (o42.1, sA o45.2 0 231 ((o45.2.2 0 (231 : Int32).toNatClampNeg) + 1)) else none else none)) else (f_X7_writesRoot x1 o42.1 o42.2).bind fun o57 => (f_X7_isMarking o57.2).bind fun o59 => (if o59.1 = 0 then if ib 231 235 then if ib 231 235 then some (o42.1, sA o59.2 0 231 ((o59.2.2 0 (231 : Int32).toNatClampNeg) + 1)) else none else none else (if o57.1 < 24 then (f_X7_shades o42.1 o59.2).bind fun o65 => if ib 231 235 then if ib 231 235 then some (o42.1, sA o65.2 0 231 ((o65.2.2 0 (231 : Int32).toNatClampNeg) + 1)) else none else none else if ib 231 235 then if ib 231 235 then some (o42.1, sA o59.2 0 231 ((o59.2.2 0 (231 : Int32).toNatClampNeg) + 1)) else none else none)))) else none))
set_option maxRecDepth 100000 in
set_option maxHeartbeats 4000000 in
theorem c_X7_finish {l : Launch} {D : va_G} {cI : ClassId × ClassId} {A : Nat → Prop} {ad : Nat → Nat} {x1 : Int32} {w : St} {o : Int32 × St} (hf : f_X7_finish x1 w = some o) : CTi l D cI A yX7_finish cX7_finish 4 (some .int) rm_X7_finish [.ref (ad 0), .int x1] ((wM ad cI) w) o.1 ((wM ad cI) o.2)   := by
  refine CTi.of (by decide +kernel) rfl (Nat.le_of_ble_eq_true rfl) ?_
  intro p e s m args below meth c X hr
  have X : gX p s m args meth c cX7_finish 4 RX7 D cI := X
  show G _ _ _ _ _ _ _ _ _ _ _ _ _ _ _ _ _ 0 [some (.ref (ad 0)), some (.int x1), none, none] [] w
  unfold f_X7_finish at hf
  refine g_iload_n X (i := 1) dX7_finish_0 rfl rfl ?_
  refine g_iconst X dX7_finish_1 (v := (-1)) (by decide) ?_
  refine g_icmp_eq X dX7_finish_2 (tgt := 15) (by decide) hf (fun c1 hf => ?_) (fun c1 hf => ?_)
  · refine g_aload_n X (i := 0) dX7_finish_15 rfl rfl ?_
    refine g_get X (q0 := 0) (v := .ref (ad 1)) 0 dX7_finish_16 gC_X7 rfl rfl (by decide) fl_X7_7 rfl rfl ?_
    refine g_sipush X dX7_finish_19 (v := 193) (by decide) ?_
    obtain ⟨hb2, hf⟩ := hfg hf
    refine g_iald X (q0 := 1) (f := w.2 0) dX7_finish_22 rfl hb2 ?_
    refine g_if_ne X dX7_finish_23 (tgt := 29) (by decide) hf (fun c3 hf => ?_) (fun c3 hf => ?_)
    · refine g_bipush X dX7_finish_26 (v := (-12)) (by decide) ?_
      exact g_iret X hr dX7_finish_28 hf
    · refine g_aload_n X (i := 0) dX7_finish_29 rfl rfl ?_
      obtain ⟨o4, h5, hf⟩ := hfb hf
      refine g_Vv X (q0 := 0) (As := []) (rest := []) (c_X7_changes h5) dX7_finish_30 ml_X7_81 yv_X7_changes rfl rfl rfl rfl ⟨Nat.le_of_ble_eq_true rfl, Nat.le_of_ble_eq_true rfl⟩ ⟨rfl, rfl⟩ (Nat.le_of_ble_eq_true rfl) ⟨Nat.le_of_ble_eq_true rfl, Nat.le_of_ble_eq_true rfl⟩ ?_
      refine g_aload_n X (i := 0) dX7_finish_33 rfl rfl ?_
      refine g_sipush X dX7_finish_34 (v := 193) (by decide) ?_
      obtain ⟨o6, h7, hf⟩ := hfb hf
      refine g_Vi X (q0 := 0) (As := [.int 193]) (rest := []) (c_X7_takes h7) dX7_finish_37 ml_X7_96 yv_X7_takes rfl rfl rfl rfl ⟨Nat.le_of_ble_eq_true rfl, Nat.le_of_ble_eq_true rfl⟩ ⟨rfl, rfl⟩ (Nat.le_of_ble_eq_true rfl) ⟨Nat.le_of_ble_eq_true rfl, Nat.le_of_ble_eq_true rfl⟩ ?_
      refine g_istore_n X (i := 2) dX7_finish_40 rfl (by decide) rfl ?_
      refine g_iload_n X (i := 1) dX7_finish_41 rfl rfl ?_
      refine g_if_ge X dX7_finish_42 (tgt := 49) (by decide) hf (fun c8 hf => ?_) (fun c8 hf => ?_)
      · refine g_iconst X dX7_finish_45 (v := (-1)) (by decide) ?_
        refine g_goto X dX7_finish_46 (tgt := 55) (by decide) ?_
        refine g_istore_n X (i := 3) dX7_finish_55 rfl (by decide) rfl ?_
        refine g_aload_n X (i := 0) dX7_finish_56 rfl rfl ?_
        obtain ⟨o9, h10, hf⟩ := hfb hf
        refine g_Vi X (q0 := 0) (As := []) (rest := []) (c_X7_isMarking h10) dX7_finish_57 ml_X7_62 yv_X7_isMarking rfl rfl rfl rfl ⟨Nat.le_of_ble_eq_true rfl, Nat.le_of_ble_eq_true rfl⟩ ⟨rfl, rfl⟩ (Nat.le_of_ble_eq_true rfl) ⟨Nat.le_of_ble_eq_true rfl, Nat.le_of_ble_eq_true rfl⟩ ?_
        refine g_if_eq X dX7_finish_60 (tgt := 74) (by decide) hf (fun c11 hf => ?_) (fun c11 hf => ?_)
        · refine g_aload_n X (i := 0) dX7_finish_74 rfl rfl ?_
          refine g_get X (q0 := 0) (v := .ref (ad 1)) 0 dX7_finish_75 gC_X7 rfl rfl (by decide) fl_X7_7 rfl rfl ?_
          refine g_sipush X dX7_finish_78 (v := 231) (by decide) ?_
          refine g_dup2 X dX7_finish_81 rfl rfl ?_
          obtain ⟨hb12, hf⟩ := hfg hf
          refine g_iald X (q0 := 1) (f := o9.2.2 0) dX7_finish_82 rfl hb12 ?_
          refine g_iconst X dX7_finish_83 (v := 1) (by decide) ?_
          refine g_iadd X dX7_finish_84 ?_
          obtain ⟨hb13, hf⟩ := hfg hf
          refine g_iast X (q0 := 1) (f := o9.2.2 0) dX7_finish_85 rfl hb13 (awM_0 ad cI _ _ _) ?_
          refine g_iload_n X (i := 2) dX7_finish_86 rfl rfl ?_
          exact g_iret X hr dX7_finish_87 hf
        · refine g_iload_n X (i := 3) dX7_finish_63 rfl rfl ?_
          refine g_bipush X dX7_finish_64 (v := 24) (by decide) ?_
          refine g_icmp_ge X dX7_finish_66 (tgt := 74) (by decide) hf (fun c14 hf => ?_) (fun c14 hf => ?_)
          · refine g_aload_n X (i := 0) dX7_finish_69 rfl rfl ?_
            refine g_iload_n X (i := 2) dX7_finish_70 rfl rfl ?_
            obtain ⟨o15, h16, hf⟩ := hfb hf
            refine g_Vv X (q0 := 0) (As := [.int o6.1]) (rest := []) (c_X7_shades h16) dX7_finish_71 ml_X7_66 yv_X7_shades rfl rfl rfl rfl ⟨Nat.le_of_ble_eq_true rfl, Nat.le_of_ble_eq_true rfl⟩ ⟨rfl, rfl⟩ (Nat.le_of_ble_eq_true rfl) ⟨Nat.le_of_ble_eq_true rfl, Nat.le_of_ble_eq_true rfl⟩ ?_
            refine g_aload_n X (i := 0) dX7_finish_74 rfl rfl ?_
            refine g_get X (q0 := 0) (v := .ref (ad 1)) 0 dX7_finish_75 gC_X7 rfl rfl (by decide) fl_X7_7 rfl rfl ?_
            refine g_sipush X dX7_finish_78 (v := 231) (by decide) ?_
            refine g_dup2 X dX7_finish_81 rfl rfl ?_
            obtain ⟨hb17, hf⟩ := hfg hf
            refine g_iald X (q0 := 1) (f := o15.2.2 0) dX7_finish_82 rfl hb17 ?_
            refine g_iconst X dX7_finish_83 (v := 1) (by decide) ?_
            refine g_iadd X dX7_finish_84 ?_
            obtain ⟨hb18, hf⟩ := hfg hf
            refine g_iast X (q0 := 1) (f := o15.2.2 0) dX7_finish_85 rfl hb18 (awM_0 ad cI _ _ _) ?_
            refine g_iload_n X (i := 2) dX7_finish_86 rfl rfl ?_
            exact g_iret X hr dX7_finish_87 hf
          · refine g_aload_n X (i := 0) dX7_finish_74 rfl rfl ?_
            refine g_get X (q0 := 0) (v := .ref (ad 1)) 0 dX7_finish_75 gC_X7 rfl rfl (by decide) fl_X7_7 rfl rfl ?_
            refine g_sipush X dX7_finish_78 (v := 231) (by decide) ?_
            refine g_dup2 X dX7_finish_81 rfl rfl ?_
            obtain ⟨hb19, hf⟩ := hfg hf
            refine g_iald X (q0 := 1) (f := o9.2.2 0) dX7_finish_82 rfl hb19 ?_
            refine g_iconst X dX7_finish_83 (v := 1) (by decide) ?_
            refine g_iadd X dX7_finish_84 ?_
            obtain ⟨hb20, hf⟩ := hfg hf
            refine g_iast X (q0 := 1) (f := o9.2.2 0) dX7_finish_85 rfl hb20 (awM_0 ad cI _ _ _) ?_
            refine g_iload_n X (i := 2) dX7_finish_86 rfl rfl ?_
            exact g_iret X hr dX7_finish_87 hf
      · refine g_aload_n X (i := 0) dX7_finish_49 rfl rfl ?_
        refine g_iload_n X (i := 1) dX7_finish_50 rfl rfl ?_
        refine g_iload_n X (i := 2) dX7_finish_51 rfl rfl ?_
        obtain ⟨o21, h22, hf⟩ := hfb hf
        refine g_Vi X (q0 := 0) (As := [.int x1, .int o6.1]) (rest := []) (c_X7_writesRoot h22) dX7_finish_52 ml_X7_84 yv_X7_writesRoot rfl rfl rfl rfl ⟨Nat.le_of_ble_eq_true rfl, Nat.le_of_ble_eq_true rfl⟩ ⟨rfl, rfl⟩ (Nat.le_of_ble_eq_true rfl) ⟨Nat.le_of_ble_eq_true rfl, Nat.le_of_ble_eq_true rfl⟩ ?_
        refine g_istore_n X (i := 3) dX7_finish_55 rfl (by decide) rfl ?_
        refine g_aload_n X (i := 0) dX7_finish_56 rfl rfl ?_
        obtain ⟨o23, h24, hf⟩ := hfb hf
        refine g_Vi X (q0 := 0) (As := []) (rest := []) (c_X7_isMarking h24) dX7_finish_57 ml_X7_62 yv_X7_isMarking rfl rfl rfl rfl ⟨Nat.le_of_ble_eq_true rfl, Nat.le_of_ble_eq_true rfl⟩ ⟨rfl, rfl⟩ (Nat.le_of_ble_eq_true rfl) ⟨Nat.le_of_ble_eq_true rfl, Nat.le_of_ble_eq_true rfl⟩ ?_
        refine g_if_eq X dX7_finish_60 (tgt := 74) (by decide) hf (fun c25 hf => ?_) (fun c25 hf => ?_)
        · refine g_aload_n X (i := 0) dX7_finish_74 rfl rfl ?_
          refine g_get X (q0 := 0) (v := .ref (ad 1)) 0 dX7_finish_75 gC_X7 rfl rfl (by decide) fl_X7_7 rfl rfl ?_
          refine g_sipush X dX7_finish_78 (v := 231) (by decide) ?_
          refine g_dup2 X dX7_finish_81 rfl rfl ?_
          obtain ⟨hb26, hf⟩ := hfg hf
          refine g_iald X (q0 := 1) (f := o23.2.2 0) dX7_finish_82 rfl hb26 ?_
          refine g_iconst X dX7_finish_83 (v := 1) (by decide) ?_
          refine g_iadd X dX7_finish_84 ?_
          obtain ⟨hb27, hf⟩ := hfg hf
          refine g_iast X (q0 := 1) (f := o23.2.2 0) dX7_finish_85 rfl hb27 (awM_0 ad cI _ _ _) ?_
          refine g_iload_n X (i := 2) dX7_finish_86 rfl rfl ?_
          exact g_iret X hr dX7_finish_87 hf
        · refine g_iload_n X (i := 3) dX7_finish_63 rfl rfl ?_
          refine g_bipush X dX7_finish_64 (v := 24) (by decide) ?_
          refine g_icmp_ge X dX7_finish_66 (tgt := 74) (by decide) hf (fun c28 hf => ?_) (fun c28 hf => ?_)
          · refine g_aload_n X (i := 0) dX7_finish_69 rfl rfl ?_
            refine g_iload_n X (i := 2) dX7_finish_70 rfl rfl ?_
            obtain ⟨o29, h30, hf⟩ := hfb hf
            refine g_Vv X (q0 := 0) (As := [.int o6.1]) (rest := []) (c_X7_shades h30) dX7_finish_71 ml_X7_66 yv_X7_shades rfl rfl rfl rfl ⟨Nat.le_of_ble_eq_true rfl, Nat.le_of_ble_eq_true rfl⟩ ⟨rfl, rfl⟩ (Nat.le_of_ble_eq_true rfl) ⟨Nat.le_of_ble_eq_true rfl, Nat.le_of_ble_eq_true rfl⟩ ?_
            refine g_aload_n X (i := 0) dX7_finish_74 rfl rfl ?_
            refine g_get X (q0 := 0) (v := .ref (ad 1)) 0 dX7_finish_75 gC_X7 rfl rfl (by decide) fl_X7_7 rfl rfl ?_
            refine g_sipush X dX7_finish_78 (v := 231) (by decide) ?_
            refine g_dup2 X dX7_finish_81 rfl rfl ?_
            obtain ⟨hb31, hf⟩ := hfg hf
            refine g_iald X (q0 := 1) (f := o29.2.2 0) dX7_finish_82 rfl hb31 ?_
            refine g_iconst X dX7_finish_83 (v := 1) (by decide) ?_
            refine g_iadd X dX7_finish_84 ?_
            obtain ⟨hb32, hf⟩ := hfg hf
            refine g_iast X (q0 := 1) (f := o29.2.2 0) dX7_finish_85 rfl hb32 (awM_0 ad cI _ _ _) ?_
            refine g_iload_n X (i := 2) dX7_finish_86 rfl rfl ?_
            exact g_iret X hr dX7_finish_87 hf
          · refine g_aload_n X (i := 0) dX7_finish_74 rfl rfl ?_
            refine g_get X (q0 := 0) (v := .ref (ad 1)) 0 dX7_finish_75 gC_X7 rfl rfl (by decide) fl_X7_7 rfl rfl ?_
            refine g_sipush X dX7_finish_78 (v := 231) (by decide) ?_
            refine g_dup2 X dX7_finish_81 rfl rfl ?_
            obtain ⟨hb33, hf⟩ := hfg hf
            refine g_iald X (q0 := 1) (f := o23.2.2 0) dX7_finish_82 rfl hb33 ?_
            refine g_iconst X dX7_finish_83 (v := 1) (by decide) ?_
            refine g_iadd X dX7_finish_84 ?_
            obtain ⟨hb34, hf⟩ := hfg hf
            refine g_iast X (q0 := 1) (f := o23.2.2 0) dX7_finish_85 rfl hb34 (awM_0 ad cI _ _ _) ?_
            refine g_iload_n X (i := 2) dX7_finish_86 rfl rfl ?_
            exact g_iret X hr dX7_finish_87 hf
  · refine g_iload_n X (i := 1) dX7_finish_5 rfl rfl ?_
    obtain ⟨o35, h36, hf⟩ := hfb hf
    refine g_Si X (As := [.int x1]) (rest := []) (c_X7_isRoot (wf := (wM ad cI)) h36) dX7_finish_6 ml_X7_74 yv_X7_isRoot rfl rfl ⟨Nat.le_of_ble_eq_true rfl, Nat.le_of_ble_eq_true rfl⟩ ⟨rfl, rfl⟩ (Nat.le_of_ble_eq_true rfl) ⟨Nat.le_of_ble_eq_true rfl, Nat.le_of_ble_eq_true rfl⟩ ?_
    refine g_if_ne X dX7_finish_9 (tgt := 15) (by decide) hf (fun c37 hf => ?_) (fun c37 hf => ?_)
    · refine g_bipush X dX7_finish_12 (v := (-11)) (by decide) ?_
      exact g_iret X hr dX7_finish_14 hf
    · refine g_aload_n X (i := 0) dX7_finish_15 rfl rfl ?_
      refine g_get X (q0 := 0) (v := .ref (ad 1)) 0 dX7_finish_16 gC_X7 rfl rfl (by decide) fl_X7_7 rfl rfl ?_
      refine g_sipush X dX7_finish_19 (v := 193) (by decide) ?_
      obtain ⟨hb38, hf⟩ := hfg hf
      refine g_iald X (q0 := 1) (f := o35.2.2 0) dX7_finish_22 rfl hb38 ?_
      refine g_if_ne X dX7_finish_23 (tgt := 29) (by decide) hf (fun c39 hf => ?_) (fun c39 hf => ?_)
      · refine g_bipush X dX7_finish_26 (v := (-12)) (by decide) ?_
        exact g_iret X hr dX7_finish_28 hf
      · refine g_aload_n X (i := 0) dX7_finish_29 rfl rfl ?_
        obtain ⟨o40, h41, hf⟩ := hfb hf
        refine g_Vv X (q0 := 0) (As := []) (rest := []) (c_X7_changes h41) dX7_finish_30 ml_X7_81 yv_X7_changes rfl rfl rfl rfl ⟨Nat.le_of_ble_eq_true rfl, Nat.le_of_ble_eq_true rfl⟩ ⟨rfl, rfl⟩ (Nat.le_of_ble_eq_true rfl) ⟨Nat.le_of_ble_eq_true rfl, Nat.le_of_ble_eq_true rfl⟩ ?_
        refine g_aload_n X (i := 0) dX7_finish_33 rfl rfl ?_
        refine g_sipush X dX7_finish_34 (v := 193) (by decide) ?_
        obtain ⟨o42, h43, hf⟩ := hfb hf
        refine g_Vi X (q0 := 0) (As := [.int 193]) (rest := []) (c_X7_takes h43) dX7_finish_37 ml_X7_96 yv_X7_takes rfl rfl rfl rfl ⟨Nat.le_of_ble_eq_true rfl, Nat.le_of_ble_eq_true rfl⟩ ⟨rfl, rfl⟩ (Nat.le_of_ble_eq_true rfl) ⟨Nat.le_of_ble_eq_true rfl, Nat.le_of_ble_eq_true rfl⟩ ?_
        refine g_istore_n X (i := 2) dX7_finish_40 rfl (by decide) rfl ?_
        refine g_iload_n X (i := 1) dX7_finish_41 rfl rfl ?_
        refine g_if_ge X dX7_finish_42 (tgt := 49) (by decide) hf (fun c44 hf => ?_) (fun c44 hf => ?_)
        · refine g_iconst X dX7_finish_45 (v := (-1)) (by decide) ?_
          refine g_goto X dX7_finish_46 (tgt := 55) (by decide) ?_
          refine g_istore_n X (i := 3) dX7_finish_55 rfl (by decide) rfl ?_
          refine g_aload_n X (i := 0) dX7_finish_56 rfl rfl ?_
          obtain ⟨o45, h46, hf⟩ := hfb hf
          refine g_Vi X (q0 := 0) (As := []) (rest := []) (c_X7_isMarking h46) dX7_finish_57 ml_X7_62 yv_X7_isMarking rfl rfl rfl rfl ⟨Nat.le_of_ble_eq_true rfl, Nat.le_of_ble_eq_true rfl⟩ ⟨rfl, rfl⟩ (Nat.le_of_ble_eq_true rfl) ⟨Nat.le_of_ble_eq_true rfl, Nat.le_of_ble_eq_true rfl⟩ ?_
          refine g_if_eq X dX7_finish_60 (tgt := 74) (by decide) hf (fun c47 hf => ?_) (fun c47 hf => ?_)
          · refine g_aload_n X (i := 0) dX7_finish_74 rfl rfl ?_
            refine g_get X (q0 := 0) (v := .ref (ad 1)) 0 dX7_finish_75 gC_X7 rfl rfl (by decide) fl_X7_7 rfl rfl ?_
            refine g_sipush X dX7_finish_78 (v := 231) (by decide) ?_
            refine g_dup2 X dX7_finish_81 rfl rfl ?_
            obtain ⟨hb48, hf⟩ := hfg hf
            refine g_iald X (q0 := 1) (f := o45.2.2 0) dX7_finish_82 rfl hb48 ?_
            refine g_iconst X dX7_finish_83 (v := 1) (by decide) ?_
            refine g_iadd X dX7_finish_84 ?_
            obtain ⟨hb49, hf⟩ := hfg hf
            refine g_iast X (q0 := 1) (f := o45.2.2 0) dX7_finish_85 rfl hb49 (awM_0 ad cI _ _ _) ?_
            refine g_iload_n X (i := 2) dX7_finish_86 rfl rfl ?_
            exact g_iret X hr dX7_finish_87 hf
          · refine g_iload_n X (i := 3) dX7_finish_63 rfl rfl ?_
            refine g_bipush X dX7_finish_64 (v := 24) (by decide) ?_
            refine g_icmp_ge X dX7_finish_66 (tgt := 74) (by decide) hf (fun c50 hf => ?_) (fun c50 hf => ?_)
            · refine g_aload_n X (i := 0) dX7_finish_69 rfl rfl ?_
              refine g_iload_n X (i := 2) dX7_finish_70 rfl rfl ?_
              obtain ⟨o51, h52, hf⟩ := hfb hf
              refine g_Vv X (q0 := 0) (As := [.int o42.1]) (rest := []) (c_X7_shades h52) dX7_finish_71 ml_X7_66 yv_X7_shades rfl rfl rfl rfl ⟨Nat.le_of_ble_eq_true rfl, Nat.le_of_ble_eq_true rfl⟩ ⟨rfl, rfl⟩ (Nat.le_of_ble_eq_true rfl) ⟨Nat.le_of_ble_eq_true rfl, Nat.le_of_ble_eq_true rfl⟩ ?_
              refine g_aload_n X (i := 0) dX7_finish_74 rfl rfl ?_
              refine g_get X (q0 := 0) (v := .ref (ad 1)) 0 dX7_finish_75 gC_X7 rfl rfl (by decide) fl_X7_7 rfl rfl ?_
              refine g_sipush X dX7_finish_78 (v := 231) (by decide) ?_
              refine g_dup2 X dX7_finish_81 rfl rfl ?_
              obtain ⟨hb53, hf⟩ := hfg hf
              refine g_iald X (q0 := 1) (f := o51.2.2 0) dX7_finish_82 rfl hb53 ?_
              refine g_iconst X dX7_finish_83 (v := 1) (by decide) ?_
              refine g_iadd X dX7_finish_84 ?_
              obtain ⟨hb54, hf⟩ := hfg hf
              refine g_iast X (q0 := 1) (f := o51.2.2 0) dX7_finish_85 rfl hb54 (awM_0 ad cI _ _ _) ?_
              refine g_iload_n X (i := 2) dX7_finish_86 rfl rfl ?_
              exact g_iret X hr dX7_finish_87 hf
            · refine g_aload_n X (i := 0) dX7_finish_74 rfl rfl ?_
              refine g_get X (q0 := 0) (v := .ref (ad 1)) 0 dX7_finish_75 gC_X7 rfl rfl (by decide) fl_X7_7 rfl rfl ?_
              refine g_sipush X dX7_finish_78 (v := 231) (by decide) ?_
              refine g_dup2 X dX7_finish_81 rfl rfl ?_
              obtain ⟨hb55, hf⟩ := hfg hf
              refine g_iald X (q0 := 1) (f := o45.2.2 0) dX7_finish_82 rfl hb55 ?_
              refine g_iconst X dX7_finish_83 (v := 1) (by decide) ?_
              refine g_iadd X dX7_finish_84 ?_
              obtain ⟨hb56, hf⟩ := hfg hf
              refine g_iast X (q0 := 1) (f := o45.2.2 0) dX7_finish_85 rfl hb56 (awM_0 ad cI _ _ _) ?_
              refine g_iload_n X (i := 2) dX7_finish_86 rfl rfl ?_
              exact g_iret X hr dX7_finish_87 hf
        · refine g_aload_n X (i := 0) dX7_finish_49 rfl rfl ?_
          refine g_iload_n X (i := 1) dX7_finish_50 rfl rfl ?_
          refine g_iload_n X (i := 2) dX7_finish_51 rfl rfl ?_
          obtain ⟨o57, h58, hf⟩ := hfb hf
          refine g_Vi X (q0 := 0) (As := [.int x1, .int o42.1]) (rest := []) (c_X7_writesRoot h58) dX7_finish_52 ml_X7_84 yv_X7_writesRoot rfl rfl rfl rfl ⟨Nat.le_of_ble_eq_true rfl, Nat.le_of_ble_eq_true rfl⟩ ⟨rfl, rfl⟩ (Nat.le_of_ble_eq_true rfl) ⟨Nat.le_of_ble_eq_true rfl, Nat.le_of_ble_eq_true rfl⟩ ?_
          refine g_istore_n X (i := 3) dX7_finish_55 rfl (by decide) rfl ?_
          refine g_aload_n X (i := 0) dX7_finish_56 rfl rfl ?_
          obtain ⟨o59, h60, hf⟩ := hfb hf
          refine g_Vi X (q0 := 0) (As := []) (rest := []) (c_X7_isMarking h60) dX7_finish_57 ml_X7_62 yv_X7_isMarking rfl rfl rfl rfl ⟨Nat.le_of_ble_eq_true rfl, Nat.le_of_ble_eq_true rfl⟩ ⟨rfl, rfl⟩ (Nat.le_of_ble_eq_true rfl) ⟨Nat.le_of_ble_eq_true rfl, Nat.le_of_ble_eq_true rfl⟩ ?_
          refine g_if_eq X dX7_finish_60 (tgt := 74) (by decide) hf (fun c61 hf => ?_) (fun c61 hf => ?_)
          · refine g_aload_n X (i := 0) dX7_finish_74 rfl rfl ?_
            refine g_get X (q0 := 0) (v := .ref (ad 1)) 0 dX7_finish_75 gC_X7 rfl rfl (by decide) fl_X7_7 rfl rfl ?_
            refine g_sipush X dX7_finish_78 (v := 231) (by decide) ?_
            refine g_dup2 X dX7_finish_81 rfl rfl ?_
            obtain ⟨hb62, hf⟩ := hfg hf
            refine g_iald X (q0 := 1) (f := o59.2.2 0) dX7_finish_82 rfl hb62 ?_
            refine g_iconst X dX7_finish_83 (v := 1) (by decide) ?_
            refine g_iadd X dX7_finish_84 ?_
            obtain ⟨hb63, hf⟩ := hfg hf
            refine g_iast X (q0 := 1) (f := o59.2.2 0) dX7_finish_85 rfl hb63 (awM_0 ad cI _ _ _) ?_
            refine g_iload_n X (i := 2) dX7_finish_86 rfl rfl ?_
            exact g_iret X hr dX7_finish_87 hf
          · refine g_iload_n X (i := 3) dX7_finish_63 rfl rfl ?_
            refine g_bipush X dX7_finish_64 (v := 24) (by decide) ?_
            refine g_icmp_ge X dX7_finish_66 (tgt := 74) (by decide) hf (fun c64 hf => ?_) (fun c64 hf => ?_)
            · refine g_aload_n X (i := 0) dX7_finish_69 rfl rfl ?_
              refine g_iload_n X (i := 2) dX7_finish_70 rfl rfl ?_
              obtain ⟨o65, h66, hf⟩ := hfb hf
              refine g_Vv X (q0 := 0) (As := [.int o42.1]) (rest := []) (c_X7_shades h66) dX7_finish_71 ml_X7_66 yv_X7_shades rfl rfl rfl rfl ⟨Nat.le_of_ble_eq_true rfl, Nat.le_of_ble_eq_true rfl⟩ ⟨rfl, rfl⟩ (Nat.le_of_ble_eq_true rfl) ⟨Nat.le_of_ble_eq_true rfl, Nat.le_of_ble_eq_true rfl⟩ ?_
              refine g_aload_n X (i := 0) dX7_finish_74 rfl rfl ?_
              refine g_get X (q0 := 0) (v := .ref (ad 1)) 0 dX7_finish_75 gC_X7 rfl rfl (by decide) fl_X7_7 rfl rfl ?_
              refine g_sipush X dX7_finish_78 (v := 231) (by decide) ?_
              refine g_dup2 X dX7_finish_81 rfl rfl ?_
              obtain ⟨hb67, hf⟩ := hfg hf
              refine g_iald X (q0 := 1) (f := o65.2.2 0) dX7_finish_82 rfl hb67 ?_
              refine g_iconst X dX7_finish_83 (v := 1) (by decide) ?_
              refine g_iadd X dX7_finish_84 ?_
              obtain ⟨hb68, hf⟩ := hfg hf
              refine g_iast X (q0 := 1) (f := o65.2.2 0) dX7_finish_85 rfl hb68 (awM_0 ad cI _ _ _) ?_
              refine g_iload_n X (i := 2) dX7_finish_86 rfl rfl ?_
              exact g_iret X hr dX7_finish_87 hf
            · refine g_aload_n X (i := 0) dX7_finish_74 rfl rfl ?_
              refine g_get X (q0 := 0) (v := .ref (ad 1)) 0 dX7_finish_75 gC_X7 rfl rfl (by decide) fl_X7_7 rfl rfl ?_
              refine g_sipush X dX7_finish_78 (v := 231) (by decide) ?_
              refine g_dup2 X dX7_finish_81 rfl rfl ?_
              obtain ⟨hb69, hf⟩ := hfg hf
              refine g_iald X (q0 := 1) (f := o59.2.2 0) dX7_finish_82 rfl hb69 ?_
              refine g_iconst X dX7_finish_83 (v := 1) (by decide) ?_
              refine g_iadd X dX7_finish_84 ?_
              obtain ⟨hb70, hf⟩ := hfg hf
              refine g_iast X (q0 := 1) (f := o59.2.2 0) dX7_finish_85 rfl hb70 (awM_0 ad cI _ _ _) ?_
              refine g_iload_n X (i := 2) dX7_finish_86 rfl rfl ?_
              exact g_iret X hr dX7_finish_87 hf
def f_X7_grey (x1 : Int32) (w : St) : Option (Int32 × St) := (if x1 < 0 then some ((-11), w) else if ib 168 235 then (if x1 < (w.2 0 (168 : Int32).toNatClampNeg) then if ib (169 + x1) 235 then some (w.2 0 (169 + x1).toNatClampNeg, w) else none else some ((-14), w)) else none)
set_option maxRecDepth 100000 in
set_option maxHeartbeats 4000000 in
theorem c_X7_grey {l : Launch} {D : va_G} {cI : ClassId × ClassId} {A : Nat → Prop} {ad : Nat → Nat} {x1 : Int32} {w : St} {o : Int32 × St} (hf : f_X7_grey x1 w = some o) : CTi l D cI A yX7_grey cX7_grey 2 (some .int) rm_X7_grey [.ref (ad 0), .int x1] ((wM ad cI) w) o.1 ((wM ad cI) o.2)   := by
  refine CTi.of (by decide +kernel) rfl (Nat.le_of_ble_eq_true rfl) ?_
  intro p e s m args below meth c X hr
  have X : gX p s m args meth c cX7_grey 2 RX7 D cI := X
  show G _ _ _ _ _ _ _ _ _ _ _ _ _ _ _ _ _ 0 [some (.ref (ad 0)), some (.int x1)] [] w
  unfold f_X7_grey at hf
  refine g_iload_n X (i := 1) dX7_grey_0 rfl rfl ?_
  refine g_if_ge X dX7_grey_1 (tgt := 9) (by decide) hf (fun c1 hf => ?_) (fun c1 hf => ?_)
  · refine g_bipush X dX7_grey_4 (v := (-11)) (by decide) ?_
    refine g_goto X dX7_grey_6 (tgt := 36) (by decide) ?_
    exact g_iret X hr dX7_grey_36 hf
  · refine g_iload_n X (i := 1) dX7_grey_9 rfl rfl ?_
    refine g_aload_n X (i := 0) dX7_grey_10 rfl rfl ?_
    refine g_get X (q0 := 0) (v := .ref (ad 1)) 0 dX7_grey_11 gC_X7 rfl rfl (by decide) fl_X7_7 rfl rfl ?_
    refine g_sipush X dX7_grey_14 (v := 168) (by decide) ?_
    obtain ⟨hb2, hf⟩ := hfg hf
    refine g_iald X (q0 := 1) (f := w.2 0) dX7_grey_17 rfl hb2 ?_
    refine g_icmp_lt X dX7_grey_18 (tgt := 26) (by decide) hf (fun c3 hf => ?_) (fun c3 hf => ?_)
    · refine g_aload_n X (i := 0) dX7_grey_26 rfl rfl ?_
      refine g_get X (q0 := 0) (v := .ref (ad 1)) 0 dX7_grey_27 gC_X7 rfl rfl (by decide) fl_X7_7 rfl rfl ?_
      refine g_sipush X dX7_grey_30 (v := 169) (by decide) ?_
      refine g_iload_n X (i := 1) dX7_grey_33 rfl rfl ?_
      refine g_iadd X dX7_grey_34 ?_
      obtain ⟨hb4, hf⟩ := hfg hf
      refine g_iald X (q0 := 1) (f := w.2 0) dX7_grey_35 rfl hb4 ?_
      exact g_iret X hr dX7_grey_36 hf
    · refine g_bipush X dX7_grey_21 (v := (-14)) (by decide) ?_
      refine g_goto X dX7_grey_23 (tgt := 36) (by decide) ?_
      exact g_iret X hr dX7_grey_36 hf
def f_X7_hangs (x1 : Int32) (w : St) : Option (Int32 × St) := (f_X7_isObject x1 w).bind fun o1 => (if o1.1 = 0 then some ((-11), o1.2) else (f_X7_rooted (-1) o1.2).bind fun o4 => (if ((o4.1 >>> (x1 &&& 31)) &&& 1) = 0 then some ((-12), o4.2) else (f_X7_rooted x1 o4.2).bind fun o7 => some (o4.1 &&& (o7.1 ^^^ (-1)), o7.2)))
set_option maxRecDepth 100000 in
set_option maxHeartbeats 4000000 in
theorem c_X7_hangs {l : Launch} {D : va_G} {cI : ClassId × ClassId} {A : Nat → Prop} {ad : Nat → Nat} {x1 : Int32} {w : St} {o : Int32 × St} (hf : f_X7_hangs x1 w = some o) : CTi l D cI A yX7_hangs cX7_hangs 3 (some .int) rm_X7_hangs [.ref (ad 0), .int x1] ((wM ad cI) w) o.1 ((wM ad cI) o.2)   := by
  refine CTi.of (by decide +kernel) rfl (Nat.le_of_ble_eq_true rfl) ?_
  intro p e s m args below meth c X hr
  have X : gX p s m args meth c cX7_hangs 3 RX7 D cI := X
  show G _ _ _ _ _ _ _ _ _ _ _ _ _ _ _ _ _ 0 [some (.ref (ad 0)), some (.int x1), none] [] w
  unfold f_X7_hangs at hf
  refine g_aload_n X (i := 0) dX7_hangs_0 rfl rfl ?_
  refine g_iload_n X (i := 1) dX7_hangs_1 rfl rfl ?_
  obtain ⟨o1, h2, hf⟩ := hfb hf
  refine g_Vi X (q0 := 0) (As := [.int x1]) (rest := []) (c_X7_isObject h2) dX7_hangs_2 ml_X7_87 yv_X7_isObject rfl rfl rfl rfl ⟨Nat.le_of_ble_eq_true rfl, Nat.le_of_ble_eq_true rfl⟩ ⟨rfl, rfl⟩ (Nat.le_of_ble_eq_true rfl) ⟨Nat.le_of_ble_eq_true rfl, Nat.le_of_ble_eq_true rfl⟩ ?_
  refine g_if_ne X dX7_hangs_5 (tgt := 11) (by decide) hf (fun c3 hf => ?_) (fun c3 hf => ?_)
  · refine g_bipush X dX7_hangs_8 (v := (-11)) (by decide) ?_
    exact g_iret X hr dX7_hangs_10 hf
  · refine g_aload_n X (i := 0) dX7_hangs_11 rfl rfl ?_
    refine g_iconst X dX7_hangs_12 (v := (-1)) (by decide) ?_
    obtain ⟨o4, h5, hf⟩ := hfb hf
    refine g_Vi X (q0 := 0) (As := [.int (-1)]) (rest := []) (c_X7_rooted h5) dX7_hangs_13 ml_X7_50 yv_X7_rooted rfl rfl rfl rfl ⟨Nat.le_of_ble_eq_true rfl, Nat.le_of_ble_eq_true rfl⟩ ⟨rfl, rfl⟩ (Nat.le_of_ble_eq_true rfl) ⟨Nat.le_of_ble_eq_true rfl, Nat.le_of_ble_eq_true rfl⟩ ?_
    refine g_istore_n X (i := 2) dX7_hangs_16 rfl (by decide) rfl ?_
    refine g_iload_n X (i := 2) dX7_hangs_17 rfl rfl ?_
    refine g_iload_n X (i := 1) dX7_hangs_18 rfl rfl ?_
    refine g_ishr X dX7_hangs_19 ?_
    refine g_iconst X dX7_hangs_20 (v := 1) (by decide) ?_
    refine g_iand X dX7_hangs_21 ?_
    refine g_if_ne X dX7_hangs_22 (tgt := 30) (by decide) hf (fun c6 hf => ?_) (fun c6 hf => ?_)
    · refine g_bipush X dX7_hangs_25 (v := (-12)) (by decide) ?_
      refine g_goto X dX7_hangs_27 (tgt := 39) (by decide) ?_
      exact g_iret X hr dX7_hangs_39 hf
    · refine g_iload_n X (i := 2) dX7_hangs_30 rfl rfl ?_
      refine g_aload_n X (i := 0) dX7_hangs_31 rfl rfl ?_
      refine g_iload_n X (i := 1) dX7_hangs_32 rfl rfl ?_
      obtain ⟨o7, h8, hf⟩ := hfb hf
      refine g_Vi X (q0 := 0) (As := [.int x1]) (rest := [.int o4.1]) (c_X7_rooted h8) dX7_hangs_33 ml_X7_50 yv_X7_rooted rfl rfl rfl rfl ⟨Nat.le_of_ble_eq_true rfl, Nat.le_of_ble_eq_true rfl⟩ ⟨rfl, rfl⟩ (Nat.le_of_ble_eq_true rfl) ⟨Nat.le_of_ble_eq_true rfl, Nat.le_of_ble_eq_true rfl⟩ ?_
      refine g_iconst X dX7_hangs_36 (v := (-1)) (by decide) ?_
      refine g_ixor X dX7_hangs_37 ?_
      refine g_iand X dX7_hangs_38 ?_
      exact g_iret X hr dX7_hangs_39 hf
def f_X7_keep (w : St) : Option (Int32 × St) := (f_X7_copies_15 w).bind fun o1 => (f_X7_count 0 (sR o1.2 0 1)).bind fun o3 => some (o3.1, o3.2)
set_option maxRecDepth 100000 in
set_option maxHeartbeats 4000000 in
theorem c_X7_keep {l : Launch} {D : va_G} {cI : ClassId × ClassId} {A : Nat → Prop} {ad : Nat → Nat} {w : St} {o : Int32 × St} (hf : f_X7_keep w = some o) : CTi l D cI A yX7_keep cX7_keep 1 (some .int) rm_X7_keep [.ref (ad 0)] ((wM ad cI) w) o.1 ((wM ad cI) o.2)   := by
  refine CTi.of (by decide +kernel) rfl (Nat.le_of_ble_eq_true rfl) ?_
  intro p e s m args below meth c X hr
  have X : gX p s m args meth c cX7_keep 1 RX7 D cI := X
  show G _ _ _ _ _ _ _ _ _ _ _ _ _ _ _ _ _ 0 [some (.ref (ad 0))] [] w
  unfold f_X7_keep at hf
  refine g_aload_n X (i := 0) dX7_keep_0 rfl rfl ?_
  refine g_get X (q0 := 0) (v := .ref (ad 1)) 0 dX7_keep_1 gC_X7 rfl rfl (by decide) fl_X7_7 rfl rfl ?_
  refine g_aload_n X (i := 0) dX7_keep_4 rfl rfl ?_
  refine g_get X (q0 := 0) (v := .ref (ad 5)) 4 dX7_keep_5 gC_X7 rfl rfl (by decide) fl_X7_22 rfl rfl ?_
  obtain ⟨o1, h2, hf⟩ := hfb hf
  refine g_Sv X (As := [.ref (ad 1), .ref (ad 5)]) (rest := []) (c_X7_copies_15 h2) dX7_keep_8 ml_X7_138 yv_X7_copies rfl rfl ⟨Nat.le_of_ble_eq_true rfl, Nat.le_of_ble_eq_true rfl⟩ ⟨rfl, rfl⟩ (Nat.le_of_ble_eq_true rfl) ⟨Nat.le_of_ble_eq_true rfl, Nat.le_of_ble_eq_true rfl⟩ ?_
  refine g_aload_n X (i := 0) dX7_keep_11 rfl rfl ?_
  refine g_iconst X dX7_keep_12 (v := 1) (by decide) ?_
  refine g_put X (q0 := 0) 5 dX7_keep_13 gC_X7 rfl rfl (by decide) fl_X7_135 rfl rfl rfl rfl (Nat.le_of_ble_eq_true rfl) (pwM_0 ad cI _ _) ?_
  refine g_aload_n X (i := 0) dX7_keep_16 rfl rfl ?_
  refine g_iconst X dX7_keep_17 (v := 0) (by decide) ?_
  obtain ⟨o3, h4, hf⟩ := hfb hf
  refine g_Vi X (q0 := 0) (As := [.int 0]) (rest := []) (c_X7_count h4) dX7_keep_18 ml_X7_142 yv_X7_count rfl rfl rfl rfl ⟨Nat.le_of_ble_eq_true rfl, Nat.le_of_ble_eq_true rfl⟩ ⟨rfl, rfl⟩ (Nat.le_of_ble_eq_true rfl) ⟨Nat.le_of_ble_eq_true rfl, Nat.le_of_ble_eq_true rfl⟩ ?_
  exact g_iret X hr dX7_keep_21 hf
def f_X7_late_L9 : Nat → Int32 → Int32 → Int32 → St → Option (Int32 × St)
  | 0, _, _, _, _ => none
  | n + 1, x1, x2, x3, w => (if x3 < 24 then if ib 226 235 then (if (0 : Int32) < (w.2 0 (226 : Int32).toNatClampNeg) then (f_X7_of x3 5 w).bind fun o6 => (if o6.1 = 0 then if ib 226 235 then (if (o6.2.2 0 (226 : Int32).toNatClampNeg) = 3 then if ib 227 235 then (if x3 < (o6.2.2 0 (227 : Int32).toNatClampNeg) then (f_X7_isObject x3 o6.2).bind fun o13 => (if o13.1 = 0 then f_X7_late_L9 n (x1 + 0) x2 (x3 + 1) o13.2 else (if ((x2 >>> (x3 &&& 31)) &&& 1) = 0 then (if (1 : Int32) = 0 then f_X7_late_L9 n (x1 + 0) x2 (x3 + 1) o13.2 else f_X7_late_L9 n (x1 + 1) x2 (x3 + 1) o13.2) else f_X7_late_L9 n (x1 + 0) x2 (x3 + 1) o13.2)) else (f_X7_isObject x3 o6.2).bind fun o18 => (if o18.1 = 0 then f_X7_late_L9 n (x1 + 0) x2 (x3 + 1) o18.2 else (if ((x2 >>> (x3 &&& 31)) &&& 1) = 0 then (if (0 : Int32) = 0 then f_X7_late_L9 n (x1 + 0) x2 (x3 + 1) o18.2 else f_X7_late_L9 n (x1 + 1) x2 (x3 + 1) o18.2) else f_X7_late_L9 n (x1 + 0) x2 (x3 + 1) o18.2))) else none else (f_X7_isObject x3 o6.2).bind fun o23 => (if o23.1 = 0 then f_X7_late_L9 n (x1 + 0) x2 (x3 + 1) o23.2 else (if ((x2 >>> (x3 &&& 31)) &&& 1) = 0 then (if (0 : Int32) = 0 then f_X7_late_L9 n (x1 + 0) x2 (x3 + 1) o23.2 else f_X7_late_L9 n (x1 + 1) x2 (x3 + 1) o23.2) else f_X7_late_L9 n (x1 + 0) x2 (x3 + 1) o23.2))) else none else (f_X7_isObject x3 o6.2).bind fun o28 => (if o28.1 = 0 then f_X7_late_L9 n (x1 + 0) x2 (x3 + 1) o28.2 else (if ((x2 >>> (x3 &&& 31)) &&& 1) = 0 then (if (1 : Int32) = 0 then f_X7_late_L9 n (x1 + 0) x2 (x3 + 1) o28.2 else f_X7_late_L9 n (x1 + 1) x2 (x3 + 1) o28.2) else f_X7_late_L9 n (x1 + 0) x2 (x3 + 1) o28.2))) else some (x1, w)) else none else some (x1, w))
def f_X7_late (w : St) : Option (Int32 × St) := (f_X7_reached w).bind fun o1 => (f_X7_late_L9 BIG 0 o1.1 0 o1.2).bind fun o33 => some (o33.1, o33.2)
set_option maxRecDepth 100000 in
set_option maxHeartbeats 4000000 in
theorem gl_X7_late_L9 {p : Program} {l : Launch} {e : Env} {s : State} {m : MethodId} {args : Array Value} {below : List Frame} {meth : Method} {c : Code} {D : va_G} {A : Nat → Prop} {cI : ClassId × ClassId} {ad : Nat → Nat} {Q : State → Prop} {o : Int32 × St} (X : gX p s m args meth c cX7_late 5 RX7 D cI) (n : Nat) : ∀ {x1 x2 x3 : Int32} {w : St}, f_X7_late_L9 n x1 x2 x3 w = some o → G p l e rm_X7_late s m args below meth c D A 5 Q (wM ad cI) 0 0 101 [none, some (.int o.1), none, none, none] [] o.2 → G p l e rm_X7_late s m args below meth c D A 5 Q (wM ad cI) 0 0 9 [some (.ref (ad 0)), some (.int x1), some (.int x2), some (.int x3), none] [] w := by
  induction n with
  | zero => intro x1 x2 x3 w hf; cases hf
  | succ n ih =>
    intro x1 x2 x3 w hf k
    rw [f_X7_late_L9] at hf
    refine g_iload_n X (i := 3) dX7_late_9 rfl rfl ?_
    refine g_bipush X dX7_late_10 (v := 24) (by decide) ?_
    refine g_icmp_ge X dX7_late_12 (tgt := 101) (by decide) hf (fun c3 hf => ?_) (fun c3 hf => ?_)
    · refine g_aload_n X (i := 0) dX7_late_15 rfl rfl ?_
      refine g_get X (q0 := 0) (v := .ref (ad 1)) 0 dX7_late_16 gC_X7 rfl rfl (by decide) fl_X7_7 rfl rfl ?_
      refine g_sipush X dX7_late_19 (v := 226) (by decide) ?_
      obtain ⟨hb4, hf⟩ := hfg hf
      refine g_iald X (q0 := 1) (f := w.2 0) dX7_late_22 rfl hb4 ?_
      refine g_if_le X dX7_late_23 (tgt := 101) (by decide) hf (fun c5 hf => ?_) (fun c5 hf => ?_)
      · refine g_aload_n X (i := 0) dX7_late_26 rfl rfl ?_
        refine g_iload_n X (i := 3) dX7_late_27 rfl rfl ?_
        refine g_iconst X dX7_late_28 (v := 5) (by decide) ?_
        obtain ⟨o6, h7, hf⟩ := hfb hf
        refine g_Vi X (q0 := 0) (As := [.int x3, .int 5]) (rest := []) (c_X7_of h7) dX7_late_29 ml_X7_43 yv_X7_of rfl rfl rfl rfl ⟨Nat.le_of_ble_eq_true rfl, Nat.le_of_ble_eq_true rfl⟩ ⟨rfl, rfl⟩ (Nat.le_of_ble_eq_true rfl) ⟨Nat.le_of_ble_eq_true rfl, Nat.le_of_ble_eq_true rfl⟩ ?_
        refine g_if_ne X dX7_late_32 (tgt := 59) (by decide) hf (fun c8 hf => ?_) (fun c8 hf => ?_)
        · refine g_aload_n X (i := 0) dX7_late_35 rfl rfl ?_
          refine g_get X (q0 := 0) (v := .ref (ad 1)) 0 dX7_late_36 gC_X7 rfl rfl (by decide) fl_X7_7 rfl rfl ?_
          refine g_sipush X dX7_late_39 (v := 226) (by decide) ?_
          obtain ⟨hb9, hf⟩ := hfg hf
          refine g_iald X (q0 := 1) (f := o6.2.2 0) dX7_late_42 rfl hb9 ?_
          refine g_iconst X dX7_late_43 (v := 3) (by decide) ?_
          refine g_icmp_ne X dX7_late_44 (tgt := 63) (by decide) hf (fun c10 hf => ?_) (fun c10 hf => ?_)
          · refine g_iload_n X (i := 3) dX7_late_47 rfl rfl ?_
            refine g_aload_n X (i := 0) dX7_late_48 rfl rfl ?_
            refine g_get X (q0 := 0) (v := .ref (ad 1)) 0 dX7_late_49 gC_X7 rfl rfl (by decide) fl_X7_7 rfl rfl ?_
            refine g_sipush X dX7_late_52 (v := 227) (by decide) ?_
            obtain ⟨hb11, hf⟩ := hfg hf
            refine g_iald X (q0 := 1) (f := o6.2.2 0) dX7_late_55 rfl hb11 ?_
            refine g_icmp_ge X dX7_late_56 (tgt := 63) (by decide) hf (fun c12 hf => ?_) (fun c12 hf => ?_)
            · refine g_iconst X dX7_late_59 (v := 1) (by decide) ?_
              refine g_goto X dX7_late_60 (tgt := 64) (by decide) ?_
              refine g_istore X dX7_late_64 (by decide) rfl ?_
              refine g_iload_n X (i := 1) dX7_late_66 rfl rfl ?_
              refine g_aload_n X (i := 0) dX7_late_67 rfl rfl ?_
              refine g_iload_n X (i := 3) dX7_late_68 rfl rfl ?_
              obtain ⟨o13, h14, hf⟩ := hfb hf
              refine g_Vi X (q0 := 0) (As := [.int x3]) (rest := [.int x1]) (c_X7_isObject h14) dX7_late_69 ml_X7_87 yv_X7_isObject rfl rfl rfl rfl ⟨Nat.le_of_ble_eq_true rfl, Nat.le_of_ble_eq_true rfl⟩ ⟨rfl, rfl⟩ (Nat.le_of_ble_eq_true rfl) ⟨Nat.le_of_ble_eq_true rfl, Nat.le_of_ble_eq_true rfl⟩ ?_
              refine g_if_eq X dX7_late_72 (tgt := 92) (by decide) hf (fun c15 hf => ?_) (fun c15 hf => ?_)
              · refine g_iconst X dX7_late_92 (v := 0) (by decide) ?_
                refine g_iadd X dX7_late_93 ?_
                refine g_istore_n X (i := 1) dX7_late_94 rfl (by decide) rfl ?_
                refine g_iinc X (i := 3) (v := 1) dX7_late_95 rfl (by decide) (by decide) rfl ?_
                refine g_goto X dX7_late_98 (tgt := 9) (by decide) ?_
                refine g_sub (losub (lo' := [some (.ref (ad 0)), some (.int (x1 + 0)), some (.int x2), some (.int (x3 + 1)), none]) ⟨rfl, rfl, rfl, rfl, trivial⟩) ?_
                exact ih hf k
              · refine g_iload_n X (i := 2) dX7_late_75 rfl rfl ?_
                refine g_iload_n X (i := 3) dX7_late_76 rfl rfl ?_
                refine g_ishr X dX7_late_77 ?_
                refine g_iconst X dX7_late_78 (v := 1) (by decide) ?_
                refine g_iand X dX7_late_79 ?_
                refine g_if_ne X dX7_late_80 (tgt := 92) (by decide) hf (fun c16 hf => ?_) (fun c16 hf => ?_)
                · refine g_iload X dX7_late_83 rfl ?_
                  refine g_if_eq X dX7_late_85 (tgt := 92) (by decide) hf (fun c17 hf => ?_) (fun c17 hf => ?_)
                  · refine g_iconst X dX7_late_92 (v := 0) (by decide) ?_
                    refine g_iadd X dX7_late_93 ?_
                    refine g_istore_n X (i := 1) dX7_late_94 rfl (by decide) rfl ?_
                    refine g_iinc X (i := 3) (v := 1) dX7_late_95 rfl (by decide) (by decide) rfl ?_
                    refine g_goto X dX7_late_98 (tgt := 9) (by decide) ?_
                    refine g_sub (losub (lo' := [some (.ref (ad 0)), some (.int (x1 + 0)), some (.int x2), some (.int (x3 + 1)), none]) ⟨rfl, rfl, rfl, rfl, trivial⟩) ?_
                    exact ih hf k
                  · refine g_iconst X dX7_late_88 (v := 1) (by decide) ?_
                    refine g_goto X dX7_late_89 (tgt := 93) (by decide) ?_
                    refine g_iadd X dX7_late_93 ?_
                    refine g_istore_n X (i := 1) dX7_late_94 rfl (by decide) rfl ?_
                    refine g_iinc X (i := 3) (v := 1) dX7_late_95 rfl (by decide) (by decide) rfl ?_
                    refine g_goto X dX7_late_98 (tgt := 9) (by decide) ?_
                    refine g_sub (losub (lo' := [some (.ref (ad 0)), some (.int (x1 + 1)), some (.int x2), some (.int (x3 + 1)), none]) ⟨rfl, rfl, rfl, rfl, trivial⟩) ?_
                    exact ih hf k
                · refine g_iconst X dX7_late_92 (v := 0) (by decide) ?_
                  refine g_iadd X dX7_late_93 ?_
                  refine g_istore_n X (i := 1) dX7_late_94 rfl (by decide) rfl ?_
                  refine g_iinc X (i := 3) (v := 1) dX7_late_95 rfl (by decide) (by decide) rfl ?_
                  refine g_goto X dX7_late_98 (tgt := 9) (by decide) ?_
                  refine g_sub (losub (lo' := [some (.ref (ad 0)), some (.int (x1 + 0)), some (.int x2), some (.int (x3 + 1)), none]) ⟨rfl, rfl, rfl, rfl, trivial⟩) ?_
                  exact ih hf k
            · refine g_iconst X dX7_late_63 (v := 0) (by decide) ?_
              refine g_istore X dX7_late_64 (by decide) rfl ?_
              refine g_iload_n X (i := 1) dX7_late_66 rfl rfl ?_
              refine g_aload_n X (i := 0) dX7_late_67 rfl rfl ?_
              refine g_iload_n X (i := 3) dX7_late_68 rfl rfl ?_
              obtain ⟨o18, h19, hf⟩ := hfb hf
              refine g_Vi X (q0 := 0) (As := [.int x3]) (rest := [.int x1]) (c_X7_isObject h19) dX7_late_69 ml_X7_87 yv_X7_isObject rfl rfl rfl rfl ⟨Nat.le_of_ble_eq_true rfl, Nat.le_of_ble_eq_true rfl⟩ ⟨rfl, rfl⟩ (Nat.le_of_ble_eq_true rfl) ⟨Nat.le_of_ble_eq_true rfl, Nat.le_of_ble_eq_true rfl⟩ ?_
              refine g_if_eq X dX7_late_72 (tgt := 92) (by decide) hf (fun c20 hf => ?_) (fun c20 hf => ?_)
              · refine g_iconst X dX7_late_92 (v := 0) (by decide) ?_
                refine g_iadd X dX7_late_93 ?_
                refine g_istore_n X (i := 1) dX7_late_94 rfl (by decide) rfl ?_
                refine g_iinc X (i := 3) (v := 1) dX7_late_95 rfl (by decide) (by decide) rfl ?_
                refine g_goto X dX7_late_98 (tgt := 9) (by decide) ?_
                refine g_sub (losub (lo' := [some (.ref (ad 0)), some (.int (x1 + 0)), some (.int x2), some (.int (x3 + 1)), none]) ⟨rfl, rfl, rfl, rfl, trivial⟩) ?_
                exact ih hf k
              · refine g_iload_n X (i := 2) dX7_late_75 rfl rfl ?_
                refine g_iload_n X (i := 3) dX7_late_76 rfl rfl ?_
                refine g_ishr X dX7_late_77 ?_
                refine g_iconst X dX7_late_78 (v := 1) (by decide) ?_
                refine g_iand X dX7_late_79 ?_
                refine g_if_ne X dX7_late_80 (tgt := 92) (by decide) hf (fun c21 hf => ?_) (fun c21 hf => ?_)
                · refine g_iload X dX7_late_83 rfl ?_
                  refine g_if_eq X dX7_late_85 (tgt := 92) (by decide) hf (fun c22 hf => ?_) (fun c22 hf => ?_)
                  · refine g_iconst X dX7_late_92 (v := 0) (by decide) ?_
                    refine g_iadd X dX7_late_93 ?_
                    refine g_istore_n X (i := 1) dX7_late_94 rfl (by decide) rfl ?_
                    refine g_iinc X (i := 3) (v := 1) dX7_late_95 rfl (by decide) (by decide) rfl ?_
                    refine g_goto X dX7_late_98 (tgt := 9) (by decide) ?_
                    refine g_sub (losub (lo' := [some (.ref (ad 0)), some (.int (x1 + 0)), some (.int x2), some (.int (x3 + 1)), none]) ⟨rfl, rfl, rfl, rfl, trivial⟩) ?_
                    exact ih hf k
                  · refine g_iconst X dX7_late_88 (v := 1) (by decide) ?_
                    refine g_goto X dX7_late_89 (tgt := 93) (by decide) ?_
                    refine g_iadd X dX7_late_93 ?_
                    refine g_istore_n X (i := 1) dX7_late_94 rfl (by decide) rfl ?_
                    refine g_iinc X (i := 3) (v := 1) dX7_late_95 rfl (by decide) (by decide) rfl ?_
                    refine g_goto X dX7_late_98 (tgt := 9) (by decide) ?_
                    refine g_sub (losub (lo' := [some (.ref (ad 0)), some (.int (x1 + 1)), some (.int x2), some (.int (x3 + 1)), none]) ⟨rfl, rfl, rfl, rfl, trivial⟩) ?_
                    exact ih hf k
                · refine g_iconst X dX7_late_92 (v := 0) (by decide) ?_
                  refine g_iadd X dX7_late_93 ?_
                  refine g_istore_n X (i := 1) dX7_late_94 rfl (by decide) rfl ?_
                  refine g_iinc X (i := 3) (v := 1) dX7_late_95 rfl (by decide) (by decide) rfl ?_
                  refine g_goto X dX7_late_98 (tgt := 9) (by decide) ?_
                  refine g_sub (losub (lo' := [some (.ref (ad 0)), some (.int (x1 + 0)), some (.int x2), some (.int (x3 + 1)), none]) ⟨rfl, rfl, rfl, rfl, trivial⟩) ?_
                  exact ih hf k
          · refine g_iconst X dX7_late_63 (v := 0) (by decide) ?_
            refine g_istore X dX7_late_64 (by decide) rfl ?_
            refine g_iload_n X (i := 1) dX7_late_66 rfl rfl ?_
            refine g_aload_n X (i := 0) dX7_late_67 rfl rfl ?_
            refine g_iload_n X (i := 3) dX7_late_68 rfl rfl ?_
            obtain ⟨o23, h24, hf⟩ := hfb hf
            refine g_Vi X (q0 := 0) (As := [.int x3]) (rest := [.int x1]) (c_X7_isObject h24) dX7_late_69 ml_X7_87 yv_X7_isObject rfl rfl rfl rfl ⟨Nat.le_of_ble_eq_true rfl, Nat.le_of_ble_eq_true rfl⟩ ⟨rfl, rfl⟩ (Nat.le_of_ble_eq_true rfl) ⟨Nat.le_of_ble_eq_true rfl, Nat.le_of_ble_eq_true rfl⟩ ?_
            refine g_if_eq X dX7_late_72 (tgt := 92) (by decide) hf (fun c25 hf => ?_) (fun c25 hf => ?_)
            · refine g_iconst X dX7_late_92 (v := 0) (by decide) ?_
              refine g_iadd X dX7_late_93 ?_
              refine g_istore_n X (i := 1) dX7_late_94 rfl (by decide) rfl ?_
              refine g_iinc X (i := 3) (v := 1) dX7_late_95 rfl (by decide) (by decide) rfl ?_
              refine g_goto X dX7_late_98 (tgt := 9) (by decide) ?_
              refine g_sub (losub (lo' := [some (.ref (ad 0)), some (.int (x1 + 0)), some (.int x2), some (.int (x3 + 1)), none]) ⟨rfl, rfl, rfl, rfl, trivial⟩) ?_
              exact ih hf k
            · refine g_iload_n X (i := 2) dX7_late_75 rfl rfl ?_
              refine g_iload_n X (i := 3) dX7_late_76 rfl rfl ?_
              refine g_ishr X dX7_late_77 ?_
              refine g_iconst X dX7_late_78 (v := 1) (by decide) ?_
              refine g_iand X dX7_late_79 ?_
              refine g_if_ne X dX7_late_80 (tgt := 92) (by decide) hf (fun c26 hf => ?_) (fun c26 hf => ?_)
              · refine g_iload X dX7_late_83 rfl ?_
                refine g_if_eq X dX7_late_85 (tgt := 92) (by decide) hf (fun c27 hf => ?_) (fun c27 hf => ?_)
                · refine g_iconst X dX7_late_92 (v := 0) (by decide) ?_
                  refine g_iadd X dX7_late_93 ?_
                  refine g_istore_n X (i := 1) dX7_late_94 rfl (by decide) rfl ?_
                  refine g_iinc X (i := 3) (v := 1) dX7_late_95 rfl (by decide) (by decide) rfl ?_
                  refine g_goto X dX7_late_98 (tgt := 9) (by decide) ?_
                  refine g_sub (losub (lo' := [some (.ref (ad 0)), some (.int (x1 + 0)), some (.int x2), some (.int (x3 + 1)), none]) ⟨rfl, rfl, rfl, rfl, trivial⟩) ?_
                  exact ih hf k
                · refine g_iconst X dX7_late_88 (v := 1) (by decide) ?_
                  refine g_goto X dX7_late_89 (tgt := 93) (by decide) ?_
                  refine g_iadd X dX7_late_93 ?_
                  refine g_istore_n X (i := 1) dX7_late_94 rfl (by decide) rfl ?_
                  refine g_iinc X (i := 3) (v := 1) dX7_late_95 rfl (by decide) (by decide) rfl ?_
                  refine g_goto X dX7_late_98 (tgt := 9) (by decide) ?_
                  refine g_sub (losub (lo' := [some (.ref (ad 0)), some (.int (x1 + 1)), some (.int x2), some (.int (x3 + 1)), none]) ⟨rfl, rfl, rfl, rfl, trivial⟩) ?_
                  exact ih hf k
              · refine g_iconst X dX7_late_92 (v := 0) (by decide) ?_
                refine g_iadd X dX7_late_93 ?_
                refine g_istore_n X (i := 1) dX7_late_94 rfl (by decide) rfl ?_
                refine g_iinc X (i := 3) (v := 1) dX7_late_95 rfl (by decide) (by decide) rfl ?_
                refine g_goto X dX7_late_98 (tgt := 9) (by decide) ?_
                refine g_sub (losub (lo' := [some (.ref (ad 0)), some (.int (x1 + 0)), some (.int x2), some (.int (x3 + 1)), none]) ⟨rfl, rfl, rfl, rfl, trivial⟩) ?_
                exact ih hf k
        · refine g_iconst X dX7_late_59 (v := 1) (by decide) ?_
          refine g_goto X dX7_late_60 (tgt := 64) (by decide) ?_
          refine g_istore X dX7_late_64 (by decide) rfl ?_
          refine g_iload_n X (i := 1) dX7_late_66 rfl rfl ?_
          refine g_aload_n X (i := 0) dX7_late_67 rfl rfl ?_
          refine g_iload_n X (i := 3) dX7_late_68 rfl rfl ?_
          obtain ⟨o28, h29, hf⟩ := hfb hf
          refine g_Vi X (q0 := 0) (As := [.int x3]) (rest := [.int x1]) (c_X7_isObject h29) dX7_late_69 ml_X7_87 yv_X7_isObject rfl rfl rfl rfl ⟨Nat.le_of_ble_eq_true rfl, Nat.le_of_ble_eq_true rfl⟩ ⟨rfl, rfl⟩ (Nat.le_of_ble_eq_true rfl) ⟨Nat.le_of_ble_eq_true rfl, Nat.le_of_ble_eq_true rfl⟩ ?_
          refine g_if_eq X dX7_late_72 (tgt := 92) (by decide) hf (fun c30 hf => ?_) (fun c30 hf => ?_)
          · refine g_iconst X dX7_late_92 (v := 0) (by decide) ?_
            refine g_iadd X dX7_late_93 ?_
            refine g_istore_n X (i := 1) dX7_late_94 rfl (by decide) rfl ?_
            refine g_iinc X (i := 3) (v := 1) dX7_late_95 rfl (by decide) (by decide) rfl ?_
            refine g_goto X dX7_late_98 (tgt := 9) (by decide) ?_
            refine g_sub (losub (lo' := [some (.ref (ad 0)), some (.int (x1 + 0)), some (.int x2), some (.int (x3 + 1)), none]) ⟨rfl, rfl, rfl, rfl, trivial⟩) ?_
            exact ih hf k
          · refine g_iload_n X (i := 2) dX7_late_75 rfl rfl ?_
            refine g_iload_n X (i := 3) dX7_late_76 rfl rfl ?_
            refine g_ishr X dX7_late_77 ?_
            refine g_iconst X dX7_late_78 (v := 1) (by decide) ?_
            refine g_iand X dX7_late_79 ?_
            refine g_if_ne X dX7_late_80 (tgt := 92) (by decide) hf (fun c31 hf => ?_) (fun c31 hf => ?_)
            · refine g_iload X dX7_late_83 rfl ?_
              refine g_if_eq X dX7_late_85 (tgt := 92) (by decide) hf (fun c32 hf => ?_) (fun c32 hf => ?_)
              · refine g_iconst X dX7_late_92 (v := 0) (by decide) ?_
                refine g_iadd X dX7_late_93 ?_
                refine g_istore_n X (i := 1) dX7_late_94 rfl (by decide) rfl ?_
                refine g_iinc X (i := 3) (v := 1) dX7_late_95 rfl (by decide) (by decide) rfl ?_
                refine g_goto X dX7_late_98 (tgt := 9) (by decide) ?_
                refine g_sub (losub (lo' := [some (.ref (ad 0)), some (.int (x1 + 0)), some (.int x2), some (.int (x3 + 1)), none]) ⟨rfl, rfl, rfl, rfl, trivial⟩) ?_
                exact ih hf k
              · refine g_iconst X dX7_late_88 (v := 1) (by decide) ?_
                refine g_goto X dX7_late_89 (tgt := 93) (by decide) ?_
                refine g_iadd X dX7_late_93 ?_
                refine g_istore_n X (i := 1) dX7_late_94 rfl (by decide) rfl ?_
                refine g_iinc X (i := 3) (v := 1) dX7_late_95 rfl (by decide) (by decide) rfl ?_
                refine g_goto X dX7_late_98 (tgt := 9) (by decide) ?_
                refine g_sub (losub (lo' := [some (.ref (ad 0)), some (.int (x1 + 1)), some (.int x2), some (.int (x3 + 1)), none]) ⟨rfl, rfl, rfl, rfl, trivial⟩) ?_
                exact ih hf k
            · refine g_iconst X dX7_late_92 (v := 0) (by decide) ?_
              refine g_iadd X dX7_late_93 ?_
              refine g_istore_n X (i := 1) dX7_late_94 rfl (by decide) rfl ?_
              refine g_iinc X (i := 3) (v := 1) dX7_late_95 rfl (by decide) (by decide) rfl ?_
              refine g_goto X dX7_late_98 (tgt := 9) (by decide) ?_
              refine g_sub (losub (lo' := [some (.ref (ad 0)), some (.int (x1 + 0)), some (.int x2), some (.int (x3 + 1)), none]) ⟨rfl, rfl, rfl, rfl, trivial⟩) ?_
              exact ih hf k
      · obtain rfl := Option.some.inj hf
        refine g_sub (losub (lo' := [none, some (.int x1), none, none, none]) ⟨rfl, trivial⟩) ?_
        exact k
    · obtain rfl := Option.some.inj hf
      refine g_sub (losub (lo' := [none, some (.int x1), none, none, none]) ⟨rfl, trivial⟩) ?_
      exact k
set_option maxRecDepth 100000 in
set_option maxHeartbeats 4000000 in
theorem c_X7_late {l : Launch} {D : va_G} {cI : ClassId × ClassId} {A : Nat → Prop} {ad : Nat → Nat} {w : St} {o : Int32 × St} (hf : f_X7_late w = some o) : CTi l D cI A yX7_late cX7_late 5 (some .int) rm_X7_late [.ref (ad 0)] ((wM ad cI) w) o.1 ((wM ad cI) o.2)   := by
  refine CTi.of (by decide +kernel) rfl (Nat.le_of_ble_eq_true rfl) ?_
  intro p e s m args below meth c X hr
  have X : gX p s m args meth c cX7_late 5 RX7 D cI := X
  show G _ _ _ _ _ _ _ _ _ _ _ _ _ _ _ _ _ 0 [some (.ref (ad 0)), none, none, none, none] [] w
  unfold f_X7_late at hf
  refine g_iconst X dX7_late_0 (v := 0) (by decide) ?_
  refine g_istore_n X (i := 1) dX7_late_1 rfl (by decide) rfl ?_
  refine g_aload_n X (i := 0) dX7_late_2 rfl rfl ?_
  obtain ⟨o1, h2, hf⟩ := hfb hf
  refine g_Vi X (q0 := 0) (As := []) (rest := []) (c_X7_reached h2) dX7_late_3 ml_X7_54 yv_X7_reached rfl rfl rfl rfl ⟨Nat.le_of_ble_eq_true rfl, Nat.le_of_ble_eq_true rfl⟩ ⟨rfl, rfl⟩ (Nat.le_of_ble_eq_true rfl) ⟨Nat.le_of_ble_eq_true rfl, Nat.le_of_ble_eq_true rfl⟩ ?_
  refine g_istore_n X (i := 2) dX7_late_6 rfl (by decide) rfl ?_
  refine g_iconst X dX7_late_7 (v := 0) (by decide) ?_
  refine g_istore_n X (i := 3) dX7_late_8 rfl (by decide) rfl ?_
  obtain ⟨o33, h34, hf⟩ := hfb hf
  refine gl_X7_late_L9 X BIG h34 ?_
  refine g_iload_n X (i := 1) dX7_late_101 rfl rfl ?_
  exact g_iret X hr dX7_late_102 hf
def f_X7_placeIn_L2 : Nat → Int32 → Int32 → St → Option (Int32 × St)
  | 0, _, _, _ => none
  | n + 1, x1, x2, w => if ib 193 235 then (if x2 < (w.2 0 (193 : Int32).toNatClampNeg) then if ib (194 + x2) 235 then (if (w.2 0 (194 + x2).toNatClampNeg) = x1 then some (x2, w) else f_X7_placeIn_L2 n x1 (x2 + 1) w) else none else some ((-1), w)) else none
def f_X7_placeIn (x1 : Int32) (w : St) : Option (Int32 × St) := f_X7_placeIn_L2 BIG x1 0 w
set_option maxRecDepth 100000 in
set_option maxHeartbeats 4000000 in
theorem gl_X7_placeIn_L2 {p : Program} {l : Launch} {e : Env} {s : State} {m : MethodId} {args : Array Value} {below : List Frame} {meth : Method} {c : Code} {D : va_G} {A : Nat → Prop} {cI : ClassId × ClassId} {ad : Nat → Nat} {o : Int32 × St} (X : gX p s m args meth c cX7_placeIn 3 RX7 D cI) (hr : meth.sig.returnType = some .int) (n : Nat) : ∀ {x1 x2 : Int32} {w : St}, f_X7_placeIn_L2 n x1 x2 w = some o → G p l e rm_X7_placeIn s m args below meth c D A 3 (MQ below (qcI D A o.1 ((wM ad cI) o.2)) args s 0 0 A) (wM ad cI) 0 0 2 [some (.ref (ad 0)), some (.int x1), some (.int x2)] [] w := by
  induction n with
  | zero => intro x1 x2 w hf; cases hf
  | succ n ih =>
    intro x1 x2 w hf
    rw [f_X7_placeIn_L2] at hf
    refine g_iload_n X (i := 2) dX7_placeIn_2 rfl rfl ?_
    refine g_aload_n X (i := 0) dX7_placeIn_3 rfl rfl ?_
    refine g_get X (q0 := 0) (v := .ref (ad 1)) 0 dX7_placeIn_4 gC_X7 rfl rfl (by decide) fl_X7_7 rfl rfl ?_
    refine g_sipush X dX7_placeIn_7 (v := 193) (by decide) ?_
    obtain ⟨hb1, hf⟩ := hfg hf
    refine g_iald X (q0 := 1) (f := w.2 0) dX7_placeIn_10 rfl hb1 ?_
    refine g_icmp_ge X dX7_placeIn_11 (tgt := 36) (by decide) hf (fun c2 hf => ?_) (fun c2 hf => ?_)
    · refine g_aload_n X (i := 0) dX7_placeIn_14 rfl rfl ?_
      refine g_get X (q0 := 0) (v := .ref (ad 1)) 0 dX7_placeIn_15 gC_X7 rfl rfl (by decide) fl_X7_7 rfl rfl ?_
      refine g_sipush X dX7_placeIn_18 (v := 194) (by decide) ?_
      refine g_iload_n X (i := 2) dX7_placeIn_21 rfl rfl ?_
      refine g_iadd X dX7_placeIn_22 ?_
      obtain ⟨hb3, hf⟩ := hfg hf
      refine g_iald X (q0 := 1) (f := w.2 0) dX7_placeIn_23 rfl hb3 ?_
      refine g_iload_n X (i := 1) dX7_placeIn_24 rfl rfl ?_
      refine g_icmp_ne X dX7_placeIn_25 (tgt := 30) (by decide) hf (fun c4 hf => ?_) (fun c4 hf => ?_)
      · refine g_iload_n X (i := 2) dX7_placeIn_28 rfl rfl ?_
        exact g_iret X hr dX7_placeIn_29 hf
      · refine g_iinc X (i := 2) (v := 1) dX7_placeIn_30 rfl (by decide) (by decide) rfl ?_
        refine g_goto X dX7_placeIn_33 (tgt := 2) (by decide) ?_
        exact ih hf
    · refine g_iconst X dX7_placeIn_36 (v := (-1)) (by decide) ?_
      exact g_iret X hr dX7_placeIn_37 hf
set_option maxRecDepth 100000 in
set_option maxHeartbeats 4000000 in
theorem c_X7_placeIn {l : Launch} {D : va_G} {cI : ClassId × ClassId} {A : Nat → Prop} {ad : Nat → Nat} {x1 : Int32} {w : St} {o : Int32 × St} (hf : f_X7_placeIn x1 w = some o) : CTi l D cI A yX7_placeIn cX7_placeIn 3 (some .int) rm_X7_placeIn [.ref (ad 0), .int x1] ((wM ad cI) w) o.1 ((wM ad cI) o.2)   := by
  refine CTi.of (by decide +kernel) rfl (Nat.le_of_ble_eq_true rfl) ?_
  intro p e s m args below meth c X hr
  have X : gX p s m args meth c cX7_placeIn 3 RX7 D cI := X
  show G _ _ _ _ _ _ _ _ _ _ _ _ _ _ _ _ _ 0 [some (.ref (ad 0)), some (.int x1), none] [] w
  unfold f_X7_placeIn at hf
  refine g_iconst X dX7_placeIn_0 (v := 0) (by decide) ?_
  refine g_istore_n X (i := 2) dX7_placeIn_1 rfl (by decide) rfl ?_
  exact gl_X7_placeIn_L2 X hr BIG hf
def f_X7_objectOf (x1 x2 : Int32) (w : St) : Option (Int32 × St) := (f_X7_isObject x1 w).bind fun o1 => (if o1.1 = 0 then some ((-11), o1.2) else (f_X7_in x2 0 7 o1.2).bind fun o4 => (if o4.1 = 0 then some ((-11), o4.2) else (if x2 = 0 then (f_X7_of x1 5 o4.2).bind fun o8 => some (o8.1, o8.2) else (if x2 = 1 then (f_X7_of x1 ((1 + x2) - 1) o4.2).bind fun o11 => some (o11.1, o11.2) else (if x2 = 2 then (f_X7_of x1 ((1 + x2) - 1) o4.2).bind fun o14 => some (o14.1, o14.2) else (if x2 = 3 then (f_X7_of x1 ((1 + x2) - 1) o4.2).bind fun o17 => some (o17.1, o17.2) else (if x2 = 4 then (f_X7_of x1 4 o4.2).bind fun o20 => some (o20.1, o20.2) else (if x2 = 5 then (f_X7_rooted (-1) o4.2).bind fun o23 => some ((o23.1 >>> (x1 &&& 31)) &&& 1, o23.2) else (if x2 = 6 then (f_X7_placeIn x1 o4.2).bind fun o26 => some (o26.1, o26.2) else (f_X7_of x1 6 o4.2).bind fun o28 => some (o28.1, o28.2))))))))))
set_option maxRecDepth 100000 in
set_option maxHeartbeats 4000000 in
theorem c_X7_objectOf {l : Launch} {D : va_G} {cI : ClassId × ClassId} {A : Nat → Prop} {ad : Nat → Nat} {x1 x2 : Int32} {w : St} {o : Int32 × St} (hf : f_X7_objectOf x1 x2 w = some o) : CTi l D cI A yX7_objectOf cX7_objectOf 3 (some .int) rm_X7_objectOf [.ref (ad 0), .int x1, .int x2] ((wM ad cI) w) o.1 ((wM ad cI) o.2)   := by
  refine CTi.of (by decide +kernel) rfl (Nat.le_of_ble_eq_true rfl) ?_
  intro p e s m args below meth c X hr
  have X : gX p s m args meth c cX7_objectOf 3 RX7 D cI := X
  show G _ _ _ _ _ _ _ _ _ _ _ _ _ _ _ _ _ 0 [some (.ref (ad 0)), some (.int x1), some (.int x2)] [] w
  unfold f_X7_objectOf at hf
  refine g_aload_n X (i := 0) dX7_objectOf_0 rfl rfl ?_
  refine g_iload_n X (i := 1) dX7_objectOf_1 rfl rfl ?_
  obtain ⟨o1, h2, hf⟩ := hfb hf
  refine g_Vi X (q0 := 0) (As := [.int x1]) (rest := []) (c_X7_isObject h2) dX7_objectOf_2 ml_X7_87 yv_X7_isObject rfl rfl rfl rfl ⟨Nat.le_of_ble_eq_true rfl, Nat.le_of_ble_eq_true rfl⟩ ⟨rfl, rfl⟩ (Nat.le_of_ble_eq_true rfl) ⟨Nat.le_of_ble_eq_true rfl, Nat.le_of_ble_eq_true rfl⟩ ?_
  refine g_if_eq X dX7_objectOf_5 (tgt := 18) (by decide) hf (fun c3 hf => ?_) (fun c3 hf => ?_)
  · refine g_bipush X dX7_objectOf_18 (v := (-11)) (by decide) ?_
    exact g_iret X hr dX7_objectOf_20 hf
  · refine g_iload_n X (i := 2) dX7_objectOf_8 rfl rfl ?_
    refine g_iconst X dX7_objectOf_9 (v := 0) (by decide) ?_
    refine g_bipush X dX7_objectOf_10 (v := 7) (by decide) ?_
    obtain ⟨o4, h5, hf⟩ := hfb hf
    refine g_Si X (As := [.int x2, .int 0, .int 7]) (rest := []) (c_X7_in (wf := (wM ad cI)) h5) dX7_objectOf_12 ml_X7_39 yv_X7_in rfl rfl ⟨Nat.le_of_ble_eq_true rfl, Nat.le_of_ble_eq_true rfl⟩ ⟨rfl, rfl⟩ (Nat.le_of_ble_eq_true rfl) ⟨Nat.le_of_ble_eq_true rfl, Nat.le_of_ble_eq_true rfl⟩ ?_
    refine g_if_ne X dX7_objectOf_15 (tgt := 21) (by decide) hf (fun c6 hf => ?_) (fun c6 hf => ?_)
    · refine g_bipush X dX7_objectOf_18 (v := (-11)) (by decide) ?_
      exact g_iret X hr dX7_objectOf_20 hf
    · refine g_iload_n X (i := 2) dX7_objectOf_21 rfl rfl ?_
      rcases hfi (q := x2 = 0) hf with ⟨c7, hf⟩ | ⟨c7, hf⟩
      · refine g_tableIn X dX7_objectOf_22 (by rw [c7]; decide) (by rw [c7]; decide) (by rw [c7]; rfl) (tgt := 64) (by decide) ?_
        refine g_aload_n X (i := 0) dX7_objectOf_64 rfl rfl ?_
        refine g_iload_n X (i := 1) dX7_objectOf_65 rfl rfl ?_
        refine g_iconst X dX7_objectOf_66 (v := 5) (by decide) ?_
        obtain ⟨o8, h9, hf⟩ := hfb hf
        refine g_Vi X (q0 := 0) (As := [.int x1, .int 5]) (rest := []) (c_X7_of h9) dX7_objectOf_67 ml_X7_43 yv_X7_of rfl rfl rfl rfl ⟨Nat.le_of_ble_eq_true rfl, Nat.le_of_ble_eq_true rfl⟩ ⟨rfl, rfl⟩ (Nat.le_of_ble_eq_true rfl) ⟨Nat.le_of_ble_eq_true rfl, Nat.le_of_ble_eq_true rfl⟩ ?_
        exact g_iret X hr dX7_objectOf_70 hf
      rcases hfi (q := x2 = 1) hf with ⟨c10, hf⟩ | ⟨c10, hf⟩
      · refine g_tableIn X dX7_objectOf_22 (by rw [c10]; decide) (by rw [c10]; decide) (by rw [c10]; rfl) (tgt := 71) (by decide) ?_
        refine g_aload_n X (i := 0) dX7_objectOf_71 rfl rfl ?_
        refine g_iload_n X (i := 1) dX7_objectOf_72 rfl rfl ?_
        refine g_iconst X dX7_objectOf_73 (v := 1) (by decide) ?_
        refine g_iload_n X (i := 2) dX7_objectOf_74 rfl rfl ?_
        refine g_iadd X dX7_objectOf_75 ?_
        refine g_iconst X dX7_objectOf_76 (v := 1) (by decide) ?_
        refine g_isub X dX7_objectOf_77 ?_
        obtain ⟨o11, h12, hf⟩ := hfb hf
        refine g_Vi X (q0 := 0) (As := [.int x1, .int ((1 + x2) - 1)]) (rest := []) (c_X7_of h12) dX7_objectOf_78 ml_X7_43 yv_X7_of rfl rfl rfl rfl ⟨Nat.le_of_ble_eq_true rfl, Nat.le_of_ble_eq_true rfl⟩ ⟨rfl, rfl⟩ (Nat.le_of_ble_eq_true rfl) ⟨Nat.le_of_ble_eq_true rfl, Nat.le_of_ble_eq_true rfl⟩ ?_
        exact g_iret X hr dX7_objectOf_81 hf
      rcases hfi (q := x2 = 2) hf with ⟨c13, hf⟩ | ⟨c13, hf⟩
      · refine g_tableIn X dX7_objectOf_22 (by rw [c13]; decide) (by rw [c13]; decide) (by rw [c13]; rfl) (tgt := 71) (by decide) ?_
        refine g_aload_n X (i := 0) dX7_objectOf_71 rfl rfl ?_
        refine g_iload_n X (i := 1) dX7_objectOf_72 rfl rfl ?_
        refine g_iconst X dX7_objectOf_73 (v := 1) (by decide) ?_
        refine g_iload_n X (i := 2) dX7_objectOf_74 rfl rfl ?_
        refine g_iadd X dX7_objectOf_75 ?_
        refine g_iconst X dX7_objectOf_76 (v := 1) (by decide) ?_
        refine g_isub X dX7_objectOf_77 ?_
        obtain ⟨o14, h15, hf⟩ := hfb hf
        refine g_Vi X (q0 := 0) (As := [.int x1, .int ((1 + x2) - 1)]) (rest := []) (c_X7_of h15) dX7_objectOf_78 ml_X7_43 yv_X7_of rfl rfl rfl rfl ⟨Nat.le_of_ble_eq_true rfl, Nat.le_of_ble_eq_true rfl⟩ ⟨rfl, rfl⟩ (Nat.le_of_ble_eq_true rfl) ⟨Nat.le_of_ble_eq_true rfl, Nat.le_of_ble_eq_true rfl⟩ ?_
        exact g_iret X hr dX7_objectOf_81 hf
      rcases hfi (q := x2 = 3) hf with ⟨c16, hf⟩ | ⟨c16, hf⟩
      · refine g_tableIn X dX7_objectOf_22 (by rw [c16]; decide) (by rw [c16]; decide) (by rw [c16]; rfl) (tgt := 71) (by decide) ?_
        refine g_aload_n X (i := 0) dX7_objectOf_71 rfl rfl ?_
        refine g_iload_n X (i := 1) dX7_objectOf_72 rfl rfl ?_
        refine g_iconst X dX7_objectOf_73 (v := 1) (by decide) ?_
        refine g_iload_n X (i := 2) dX7_objectOf_74 rfl rfl ?_
        refine g_iadd X dX7_objectOf_75 ?_
        refine g_iconst X dX7_objectOf_76 (v := 1) (by decide) ?_
        refine g_isub X dX7_objectOf_77 ?_
        obtain ⟨o17, h18, hf⟩ := hfb hf
        refine g_Vi X (q0 := 0) (As := [.int x1, .int ((1 + x2) - 1)]) (rest := []) (c_X7_of h18) dX7_objectOf_78 ml_X7_43 yv_X7_of rfl rfl rfl rfl ⟨Nat.le_of_ble_eq_true rfl, Nat.le_of_ble_eq_true rfl⟩ ⟨rfl, rfl⟩ (Nat.le_of_ble_eq_true rfl) ⟨Nat.le_of_ble_eq_true rfl, Nat.le_of_ble_eq_true rfl⟩ ?_
        exact g_iret X hr dX7_objectOf_81 hf
      rcases hfi (q := x2 = 4) hf with ⟨c19, hf⟩ | ⟨c19, hf⟩
      · refine g_tableIn X dX7_objectOf_22 (by rw [c19]; decide) (by rw [c19]; decide) (by rw [c19]; rfl) (tgt := 82) (by decide) ?_
        refine g_aload_n X (i := 0) dX7_objectOf_82 rfl rfl ?_
        refine g_iload_n X (i := 1) dX7_objectOf_83 rfl rfl ?_
        refine g_iconst X dX7_objectOf_84 (v := 4) (by decide) ?_
        obtain ⟨o20, h21, hf⟩ := hfb hf
        refine g_Vi X (q0 := 0) (As := [.int x1, .int 4]) (rest := []) (c_X7_of h21) dX7_objectOf_85 ml_X7_43 yv_X7_of rfl rfl rfl rfl ⟨Nat.le_of_ble_eq_true rfl, Nat.le_of_ble_eq_true rfl⟩ ⟨rfl, rfl⟩ (Nat.le_of_ble_eq_true rfl) ⟨Nat.le_of_ble_eq_true rfl, Nat.le_of_ble_eq_true rfl⟩ ?_
        exact g_iret X hr dX7_objectOf_88 hf
      rcases hfi (q := x2 = 5) hf with ⟨c22, hf⟩ | ⟨c22, hf⟩
      · refine g_tableIn X dX7_objectOf_22 (by rw [c22]; decide) (by rw [c22]; decide) (by rw [c22]; rfl) (tgt := 89) (by decide) ?_
        refine g_aload_n X (i := 0) dX7_objectOf_89 rfl rfl ?_
        refine g_iconst X dX7_objectOf_90 (v := (-1)) (by decide) ?_
        obtain ⟨o23, h24, hf⟩ := hfb hf
        refine g_Vi X (q0 := 0) (As := [.int (-1)]) (rest := []) (c_X7_rooted h24) dX7_objectOf_91 ml_X7_50 yv_X7_rooted rfl rfl rfl rfl ⟨Nat.le_of_ble_eq_true rfl, Nat.le_of_ble_eq_true rfl⟩ ⟨rfl, rfl⟩ (Nat.le_of_ble_eq_true rfl) ⟨Nat.le_of_ble_eq_true rfl, Nat.le_of_ble_eq_true rfl⟩ ?_
        refine g_iload_n X (i := 1) dX7_objectOf_94 rfl rfl ?_
        refine g_ishr X dX7_objectOf_95 ?_
        refine g_iconst X dX7_objectOf_96 (v := 1) (by decide) ?_
        refine g_iand X dX7_objectOf_97 ?_
        exact g_iret X hr dX7_objectOf_98 hf
      rcases hfi (q := x2 = 6) hf with ⟨c25, hf⟩ | ⟨c25, hf⟩
      · refine g_tableIn X dX7_objectOf_22 (by rw [c25]; decide) (by rw [c25]; decide) (by rw [c25]; rfl) (tgt := 99) (by decide) ?_
        refine g_aload_n X (i := 0) dX7_objectOf_99 rfl rfl ?_
        refine g_iload_n X (i := 1) dX7_objectOf_100 rfl rfl ?_
        obtain ⟨o26, h27, hf⟩ := hfb hf
        refine g_Vi X (q0 := 0) (As := [.int x1]) (rest := []) (c_X7_placeIn h27) dX7_objectOf_101 ml_X7_123 yv_X7_placeIn rfl rfl rfl rfl ⟨Nat.le_of_ble_eq_true rfl, Nat.le_of_ble_eq_true rfl⟩ ⟨rfl, rfl⟩ (Nat.le_of_ble_eq_true rfl) ⟨Nat.le_of_ble_eq_true rfl, Nat.le_of_ble_eq_true rfl⟩ ?_
        exact g_iret X hr dX7_objectOf_104 hf
      refine g_tableOut X dX7_objectOf_22 (sw_out x2 0 6 [0, 1, 2, 3, 4, 5, 6] rfl (List.forall_mem_cons.mpr ⟨c7, List.forall_mem_cons.mpr ⟨c10, List.forall_mem_cons.mpr ⟨c13, List.forall_mem_cons.mpr ⟨c16, List.forall_mem_cons.mpr ⟨c19, List.forall_mem_cons.mpr ⟨c22, List.forall_mem_cons.mpr ⟨c25, fun _ h => absurd h List.not_mem_nil⟩⟩⟩⟩⟩⟩⟩)) (tgt := 105) (by decide) ?_
      refine g_aload_n X (i := 0) dX7_objectOf_105 rfl rfl ?_
      refine g_iload_n X (i := 1) dX7_objectOf_106 rfl rfl ?_
      refine g_bipush X dX7_objectOf_107 (v := 6) (by decide) ?_
      obtain ⟨o28, h29, hf⟩ := hfb hf
      refine g_Vi X (q0 := 0) (As := [.int x1, .int 6]) (rest := []) (c_X7_of h29) dX7_objectOf_109 ml_X7_43 yv_X7_of rfl rfl rfl rfl ⟨Nat.le_of_ble_eq_true rfl, Nat.le_of_ble_eq_true rfl⟩ ⟨rfl, rfl⟩ (Nat.le_of_ble_eq_true rfl) ⟨Nat.le_of_ble_eq_true rfl, Nat.le_of_ble_eq_true rfl⟩ ?_
      exact g_iret X hr dX7_objectOf_112 hf
def f_X7_objects (x1 : Int32) (w : St) : Option (Int32 × St) := (if x1 = 0 then (f_X7_those 0 1 w).bind fun o2 => some (o2.1, o2.2) else (if x1 = 1 then (f_X7_rooted (-1) w).bind fun o5 => some (o5.1, o5.2) else (if x1 = 2 then (f_X7_reached w).bind fun o8 => some (o8.1, o8.2) else (if x1 = 3 then (f_X7_those 5 (x1 - 3) w).bind fun o11 => some (o11.1, o11.2) else (if x1 = 4 then (f_X7_those 5 (x1 - 3) w).bind fun o14 => some (o14.1, o14.2) else (if x1 = 5 then (f_X7_those 5 (x1 - 3) w).bind fun o17 => some (o17.1, o17.2) else (if x1 = 6 then (f_X7_those 4 1 w).bind fun o20 => some (o20.1, o20.2) else (if x1 = 7 then if ib 233 235 then some (w.2 0 (233 : Int32).toNatClampNeg, w) else none else some ((-11), w)))))))))
set_option maxRecDepth 100000 in
set_option maxHeartbeats 4000000 in
theorem c_X7_objects {l : Launch} {D : va_G} {cI : ClassId × ClassId} {A : Nat → Prop} {ad : Nat → Nat} {x1 : Int32} {w : St} {o : Int32 × St} (hf : f_X7_objects x1 w = some o) : CTi l D cI A yX7_objects cX7_objects 2 (some .int) rm_X7_objects [.ref (ad 0), .int x1] ((wM ad cI) w) o.1 ((wM ad cI) o.2)   := by
  refine CTi.of (by decide +kernel) rfl (Nat.le_of_ble_eq_true rfl) ?_
  intro p e s m args below meth c X hr
  have X : gX p s m args meth c cX7_objects 2 RX7 D cI := X
  show G _ _ _ _ _ _ _ _ _ _ _ _ _ _ _ _ _ 0 [some (.ref (ad 0)), some (.int x1)] [] w
  unfold f_X7_objects at hf
  refine g_iload_n X (i := 1) dX7_objects_0 rfl rfl ?_
  rcases hfi (q := x1 = 0) hf with ⟨c1, hf⟩ | ⟨c1, hf⟩
  · refine g_tableIn X dX7_objects_1 (by rw [c1]; decide) (by rw [c1]; decide) (by rw [c1]; rfl) (tgt := 48) (by decide) ?_
    refine g_aload_n X (i := 0) dX7_objects_48 rfl rfl ?_
    refine g_iconst X dX7_objects_49 (v := 0) (by decide) ?_
    refine g_iconst X dX7_objects_50 (v := 1) (by decide) ?_
    obtain ⟨o2, h3, hf⟩ := hfb hf
    refine g_Vi X (q0 := 0) (As := [.int 0, .int 1]) (rest := []) (c_X7_those h3) dX7_objects_51 ml_X7_126 yv_X7_those rfl rfl rfl rfl ⟨Nat.le_of_ble_eq_true rfl, Nat.le_of_ble_eq_true rfl⟩ ⟨rfl, rfl⟩ (Nat.le_of_ble_eq_true rfl) ⟨Nat.le_of_ble_eq_true rfl, Nat.le_of_ble_eq_true rfl⟩ ?_
    exact g_iret X hr dX7_objects_54 hf
  rcases hfi (q := x1 = 1) hf with ⟨c4, hf⟩ | ⟨c4, hf⟩
  · refine g_tableIn X dX7_objects_1 (by rw [c4]; decide) (by rw [c4]; decide) (by rw [c4]; rfl) (tgt := 55) (by decide) ?_
    refine g_aload_n X (i := 0) dX7_objects_55 rfl rfl ?_
    refine g_iconst X dX7_objects_56 (v := (-1)) (by decide) ?_
    obtain ⟨o5, h6, hf⟩ := hfb hf
    refine g_Vi X (q0 := 0) (As := [.int (-1)]) (rest := []) (c_X7_rooted h6) dX7_objects_57 ml_X7_50 yv_X7_rooted rfl rfl rfl rfl ⟨Nat.le_of_ble_eq_true rfl, Nat.le_of_ble_eq_true rfl⟩ ⟨rfl, rfl⟩ (Nat.le_of_ble_eq_true rfl) ⟨Nat.le_of_ble_eq_true rfl, Nat.le_of_ble_eq_true rfl⟩ ?_
    exact g_iret X hr dX7_objects_60 hf
  rcases hfi (q := x1 = 2) hf with ⟨c7, hf⟩ | ⟨c7, hf⟩
  · refine g_tableIn X dX7_objects_1 (by rw [c7]; decide) (by rw [c7]; decide) (by rw [c7]; rfl) (tgt := 61) (by decide) ?_
    refine g_aload_n X (i := 0) dX7_objects_61 rfl rfl ?_
    obtain ⟨o8, h9, hf⟩ := hfb hf
    refine g_Vi X (q0 := 0) (As := []) (rest := []) (c_X7_reached h9) dX7_objects_62 ml_X7_54 yv_X7_reached rfl rfl rfl rfl ⟨Nat.le_of_ble_eq_true rfl, Nat.le_of_ble_eq_true rfl⟩ ⟨rfl, rfl⟩ (Nat.le_of_ble_eq_true rfl) ⟨Nat.le_of_ble_eq_true rfl, Nat.le_of_ble_eq_true rfl⟩ ?_
    exact g_iret X hr dX7_objects_65 hf
  rcases hfi (q := x1 = 3) hf with ⟨c10, hf⟩ | ⟨c10, hf⟩
  · refine g_tableIn X dX7_objects_1 (by rw [c10]; decide) (by rw [c10]; decide) (by rw [c10]; rfl) (tgt := 66) (by decide) ?_
    refine g_aload_n X (i := 0) dX7_objects_66 rfl rfl ?_
    refine g_iconst X dX7_objects_67 (v := 5) (by decide) ?_
    refine g_iload_n X (i := 1) dX7_objects_68 rfl rfl ?_
    refine g_iconst X dX7_objects_69 (v := 3) (by decide) ?_
    refine g_isub X dX7_objects_70 ?_
    obtain ⟨o11, h12, hf⟩ := hfb hf
    refine g_Vi X (q0 := 0) (As := [.int 5, .int (x1 - 3)]) (rest := []) (c_X7_those h12) dX7_objects_71 ml_X7_126 yv_X7_those rfl rfl rfl rfl ⟨Nat.le_of_ble_eq_true rfl, Nat.le_of_ble_eq_true rfl⟩ ⟨rfl, rfl⟩ (Nat.le_of_ble_eq_true rfl) ⟨Nat.le_of_ble_eq_true rfl, Nat.le_of_ble_eq_true rfl⟩ ?_
    exact g_iret X hr dX7_objects_74 hf
  rcases hfi (q := x1 = 4) hf with ⟨c13, hf⟩ | ⟨c13, hf⟩
  · refine g_tableIn X dX7_objects_1 (by rw [c13]; decide) (by rw [c13]; decide) (by rw [c13]; rfl) (tgt := 66) (by decide) ?_
    refine g_aload_n X (i := 0) dX7_objects_66 rfl rfl ?_
    refine g_iconst X dX7_objects_67 (v := 5) (by decide) ?_
    refine g_iload_n X (i := 1) dX7_objects_68 rfl rfl ?_
    refine g_iconst X dX7_objects_69 (v := 3) (by decide) ?_
    refine g_isub X dX7_objects_70 ?_
    obtain ⟨o14, h15, hf⟩ := hfb hf
    refine g_Vi X (q0 := 0) (As := [.int 5, .int (x1 - 3)]) (rest := []) (c_X7_those h15) dX7_objects_71 ml_X7_126 yv_X7_those rfl rfl rfl rfl ⟨Nat.le_of_ble_eq_true rfl, Nat.le_of_ble_eq_true rfl⟩ ⟨rfl, rfl⟩ (Nat.le_of_ble_eq_true rfl) ⟨Nat.le_of_ble_eq_true rfl, Nat.le_of_ble_eq_true rfl⟩ ?_
    exact g_iret X hr dX7_objects_74 hf
  rcases hfi (q := x1 = 5) hf with ⟨c16, hf⟩ | ⟨c16, hf⟩
  · refine g_tableIn X dX7_objects_1 (by rw [c16]; decide) (by rw [c16]; decide) (by rw [c16]; rfl) (tgt := 66) (by decide) ?_
    refine g_aload_n X (i := 0) dX7_objects_66 rfl rfl ?_
    refine g_iconst X dX7_objects_67 (v := 5) (by decide) ?_
    refine g_iload_n X (i := 1) dX7_objects_68 rfl rfl ?_
    refine g_iconst X dX7_objects_69 (v := 3) (by decide) ?_
    refine g_isub X dX7_objects_70 ?_
    obtain ⟨o17, h18, hf⟩ := hfb hf
    refine g_Vi X (q0 := 0) (As := [.int 5, .int (x1 - 3)]) (rest := []) (c_X7_those h18) dX7_objects_71 ml_X7_126 yv_X7_those rfl rfl rfl rfl ⟨Nat.le_of_ble_eq_true rfl, Nat.le_of_ble_eq_true rfl⟩ ⟨rfl, rfl⟩ (Nat.le_of_ble_eq_true rfl) ⟨Nat.le_of_ble_eq_true rfl, Nat.le_of_ble_eq_true rfl⟩ ?_
    exact g_iret X hr dX7_objects_74 hf
  rcases hfi (q := x1 = 6) hf with ⟨c19, hf⟩ | ⟨c19, hf⟩
  · refine g_tableIn X dX7_objects_1 (by rw [c19]; decide) (by rw [c19]; decide) (by rw [c19]; rfl) (tgt := 75) (by decide) ?_
    refine g_aload_n X (i := 0) dX7_objects_75 rfl rfl ?_
    refine g_iconst X dX7_objects_76 (v := 4) (by decide) ?_
    refine g_iconst X dX7_objects_77 (v := 1) (by decide) ?_
    obtain ⟨o20, h21, hf⟩ := hfb hf
    refine g_Vi X (q0 := 0) (As := [.int 4, .int 1]) (rest := []) (c_X7_those h21) dX7_objects_78 ml_X7_126 yv_X7_those rfl rfl rfl rfl ⟨Nat.le_of_ble_eq_true rfl, Nat.le_of_ble_eq_true rfl⟩ ⟨rfl, rfl⟩ (Nat.le_of_ble_eq_true rfl) ⟨Nat.le_of_ble_eq_true rfl, Nat.le_of_ble_eq_true rfl⟩ ?_
    exact g_iret X hr dX7_objects_81 hf
  rcases hfi (q := x1 = 7) hf with ⟨c22, hf⟩ | ⟨c22, hf⟩
  · refine g_tableIn X dX7_objects_1 (by rw [c22]; decide) (by rw [c22]; decide) (by rw [c22]; rfl) (tgt := 82) (by decide) ?_
    refine g_aload_n X (i := 0) dX7_objects_82 rfl rfl ?_
    refine g_get X (q0 := 0) (v := .ref (ad 1)) 0 dX7_objects_83 gC_X7 rfl rfl (by decide) fl_X7_7 rfl rfl ?_
    refine g_sipush X dX7_objects_86 (v := 233) (by decide) ?_
    obtain ⟨hb23, hf⟩ := hfg hf
    refine g_iald X (q0 := 1) (f := w.2 0) dX7_objects_89 rfl hb23 ?_
    exact g_iret X hr dX7_objects_90 hf
  refine g_tableOut X dX7_objects_1 (sw_out x1 0 7 [0, 1, 2, 3, 4, 5, 6, 7] rfl (List.forall_mem_cons.mpr ⟨c1, List.forall_mem_cons.mpr ⟨c4, List.forall_mem_cons.mpr ⟨c7, List.forall_mem_cons.mpr ⟨c10, List.forall_mem_cons.mpr ⟨c13, List.forall_mem_cons.mpr ⟨c16, List.forall_mem_cons.mpr ⟨c19, List.forall_mem_cons.mpr ⟨c22, fun _ h => absurd h List.not_mem_nil⟩⟩⟩⟩⟩⟩⟩⟩)) (tgt := 91) (by decide) ?_
  refine g_bipush X dX7_objects_91 (v := (-11)) (by decide) ?_
  exact g_iret X hr dX7_objects_93 hf
def f_X7_play (w : St) : Option (Int32 × St) := (f_X7_copies_13 w).bind fun o1 => (f_X7_plays o1.2).bind fun o3 => (f_X7_copies_31 o3.2).bind fun o5 => (if o3.1 = (-14) then (f_X7_changes o5.2).bind fun o8 => (f_X7_plays o8.2).bind fun o10 => (if o10.1 = (-14) then some (o10.2.1 6, o10.2) else some ((-14), o10.2)) else some ((-12), o5.2))
set_option maxRecDepth 100000 in
set_option maxHeartbeats 4000000 in
theorem c_X7_play {l : Launch} {D : va_G} {cI : ClassId × ClassId} {A : Nat → Prop} {ad : Nat → Nat} {w : St} {o : Int32 × St} (hf : f_X7_play w = some o) : CTi l D cI A yX7_play cX7_play 2 (some .int) rm_X7_play [.ref (ad 0)] ((wM ad cI) w) o.1 ((wM ad cI) o.2)   := by
  refine CTi.of (by decide +kernel) rfl (Nat.le_of_ble_eq_true rfl) ?_
  intro p e s m args below meth c X hr
  have X : gX p s m args meth c cX7_play 2 RX7 D cI := X
  show G _ _ _ _ _ _ _ _ _ _ _ _ _ _ _ _ _ 0 [some (.ref (ad 0)), none] [] w
  unfold f_X7_play at hf
  refine g_aload_n X (i := 0) dX7_play_0 rfl rfl ?_
  refine g_get X (q0 := 0) (v := .ref (ad 1)) 0 dX7_play_1 gC_X7 rfl rfl (by decide) fl_X7_7 rfl rfl ?_
  refine g_aload_n X (i := 0) dX7_play_4 rfl rfl ?_
  refine g_get X (q0 := 0) (v := .ref (ad 3)) 2 dX7_play_5 gC_X7 rfl rfl (by decide) fl_X7_16 rfl rfl ?_
  obtain ⟨o1, h2, hf⟩ := hfb hf
  refine g_Sv X (As := [.ref (ad 1), .ref (ad 3)]) (rest := []) (c_X7_copies_13 h2) dX7_play_8 ml_X7_138 yv_X7_copies rfl rfl ⟨Nat.le_of_ble_eq_true rfl, Nat.le_of_ble_eq_true rfl⟩ ⟨rfl, rfl⟩ (Nat.le_of_ble_eq_true rfl) ⟨Nat.le_of_ble_eq_true rfl, Nat.le_of_ble_eq_true rfl⟩ ?_
  refine g_aload_n X (i := 0) dX7_play_11 rfl rfl ?_
  obtain ⟨o3, h4, hf⟩ := hfb hf
  refine g_Vi X (q0 := 0) (As := []) (rest := []) (c_X7_plays h4) dX7_play_12 ml_X7_192 yv_X7_plays rfl rfl rfl rfl ⟨Nat.le_of_ble_eq_true rfl, Nat.le_of_ble_eq_true rfl⟩ ⟨rfl, rfl⟩ (Nat.le_of_ble_eq_true rfl) ⟨Nat.le_of_ble_eq_true rfl, Nat.le_of_ble_eq_true rfl⟩ ?_
  refine g_istore_n X (i := 1) dX7_play_15 rfl (by decide) rfl ?_
  refine g_aload_n X (i := 0) dX7_play_16 rfl rfl ?_
  refine g_get X (q0 := 0) (v := .ref (ad 3)) 2 dX7_play_17 gC_X7 rfl rfl (by decide) fl_X7_16 rfl rfl ?_
  refine g_aload_n X (i := 0) dX7_play_20 rfl rfl ?_
  refine g_get X (q0 := 0) (v := .ref (ad 1)) 0 dX7_play_21 gC_X7 rfl rfl (by decide) fl_X7_7 rfl rfl ?_
  obtain ⟨o5, h6, hf⟩ := hfb hf
  refine g_Sv X (As := [.ref (ad 3), .ref (ad 1)]) (rest := []) (c_X7_copies_31 h6) dX7_play_24 ml_X7_138 yv_X7_copies rfl rfl ⟨Nat.le_of_ble_eq_true rfl, Nat.le_of_ble_eq_true rfl⟩ ⟨rfl, rfl⟩ (Nat.le_of_ble_eq_true rfl) ⟨Nat.le_of_ble_eq_true rfl, Nat.le_of_ble_eq_true rfl⟩ ?_
  refine g_iload_n X (i := 1) dX7_play_27 rfl rfl ?_
  refine g_bipush X dX7_play_28 (v := (-14)) (by decide) ?_
  refine g_icmp_eq X dX7_play_30 (tgt := 36) (by decide) hf (fun c7 hf => ?_) (fun c7 hf => ?_)
  · refine g_aload_n X (i := 0) dX7_play_36 rfl rfl ?_
    obtain ⟨o8, h9, hf⟩ := hfb hf
    refine g_Vv X (q0 := 0) (As := []) (rest := []) (c_X7_changes h9) dX7_play_37 ml_X7_81 yv_X7_changes rfl rfl rfl rfl ⟨Nat.le_of_ble_eq_true rfl, Nat.le_of_ble_eq_true rfl⟩ ⟨rfl, rfl⟩ (Nat.le_of_ble_eq_true rfl) ⟨Nat.le_of_ble_eq_true rfl, Nat.le_of_ble_eq_true rfl⟩ ?_
    refine g_aload_n X (i := 0) dX7_play_40 rfl rfl ?_
    obtain ⟨o10, h11, hf⟩ := hfb hf
    refine g_Vi X (q0 := 0) (As := []) (rest := []) (c_X7_plays h11) dX7_play_41 ml_X7_192 yv_X7_plays rfl rfl rfl rfl ⟨Nat.le_of_ble_eq_true rfl, Nat.le_of_ble_eq_true rfl⟩ ⟨rfl, rfl⟩ (Nat.le_of_ble_eq_true rfl) ⟨Nat.le_of_ble_eq_true rfl, Nat.le_of_ble_eq_true rfl⟩ ?_
    refine g_bipush X dX7_play_44 (v := (-14)) (by decide) ?_
    refine g_icmp_ne X dX7_play_46 (tgt := 56) (by decide) hf (fun c12 hf => ?_) (fun c12 hf => ?_)
    · refine g_aload_n X (i := 0) dX7_play_49 rfl rfl ?_
      refine g_get X (q0 := 0) (v := .int (o10.2.1 6)) 12 dX7_play_50 gC_X7 rfl rfl (by decide) fl_X7_180 rfl rfl ?_
      refine g_goto X dX7_play_53 (tgt := 58) (by decide) ?_
      exact g_iret X hr dX7_play_58 hf
    · refine g_bipush X dX7_play_56 (v := (-14)) (by decide) ?_
      exact g_iret X hr dX7_play_58 hf
  · refine g_bipush X dX7_play_33 (v := (-12)) (by decide) ?_
    exact g_iret X hr dX7_play_35 hf
def f_X7_refers (x1 x2 : Int32) (w : St) : Option (Int32 × St) := (f_X7_in x1 0 1 w).bind fun o1 => (if o1.1 = 0 then some ((-11), o1.2) else (f_X7_isRoot x2 o1.2).bind fun o4 => (if o4.1 = 0 then some ((-11), o4.2) else (if x1 = 0 then if ib (218 + x2) 235 then (if (o4.2.2 0 (218 + x2).toNatClampNeg) < 0 then some ((-14), o4.2) else some (o4.2.2 0 (218 + x2).toNatClampNeg, o4.2)) else none else if ib (222 + x2) 235 then (if (o4.2.2 0 (222 + x2).toNatClampNeg) < 0 then some ((-14), o4.2) else some (o4.2.2 0 (222 + x2).toNatClampNeg, o4.2)) else none)))
set_option maxRecDepth 100000 in
set_option maxHeartbeats 4000000 in
theorem c_X7_refers {l : Launch} {D : va_G} {cI : ClassId × ClassId} {A : Nat → Prop} {ad : Nat → Nat} {x1 x2 : Int32} {w : St} {o : Int32 × St} (hf : f_X7_refers x1 x2 w = some o) : CTi l D cI A yX7_refers cX7_refers 4 (some .int) rm_X7_refers [.ref (ad 0), .int x1, .int x2] ((wM ad cI) w) o.1 ((wM ad cI) o.2)   := by
  refine CTi.of (by decide +kernel) rfl (Nat.le_of_ble_eq_true rfl) ?_
  intro p e s m args below meth c X hr
  have X : gX p s m args meth c cX7_refers 4 RX7 D cI := X
  show G _ _ _ _ _ _ _ _ _ _ _ _ _ _ _ _ _ 0 [some (.ref (ad 0)), some (.int x1), some (.int x2), none] [] w
  unfold f_X7_refers at hf
  refine g_iload_n X (i := 1) dX7_refers_0 rfl rfl ?_
  refine g_iconst X dX7_refers_1 (v := 0) (by decide) ?_
  refine g_iconst X dX7_refers_2 (v := 1) (by decide) ?_
  obtain ⟨o1, h2, hf⟩ := hfb hf
  refine g_Si X (As := [.int x1, .int 0, .int 1]) (rest := []) (c_X7_in (wf := (wM ad cI)) h2) dX7_refers_3 ml_X7_39 yv_X7_in rfl rfl ⟨Nat.le_of_ble_eq_true rfl, Nat.le_of_ble_eq_true rfl⟩ ⟨rfl, rfl⟩ (Nat.le_of_ble_eq_true rfl) ⟨Nat.le_of_ble_eq_true rfl, Nat.le_of_ble_eq_true rfl⟩ ?_
  refine g_if_eq X dX7_refers_6 (tgt := 16) (by decide) hf (fun c3 hf => ?_) (fun c3 hf => ?_)
  · refine g_bipush X dX7_refers_16 (v := (-11)) (by decide) ?_
    exact g_iret X hr dX7_refers_18 hf
  · refine g_iload_n X (i := 2) dX7_refers_9 rfl rfl ?_
    obtain ⟨o4, h5, hf⟩ := hfb hf
    refine g_Si X (As := [.int x2]) (rest := []) (c_X7_isRoot (wf := (wM ad cI)) h5) dX7_refers_10 ml_X7_74 yv_X7_isRoot rfl rfl ⟨Nat.le_of_ble_eq_true rfl, Nat.le_of_ble_eq_true rfl⟩ ⟨rfl, rfl⟩ (Nat.le_of_ble_eq_true rfl) ⟨Nat.le_of_ble_eq_true rfl, Nat.le_of_ble_eq_true rfl⟩ ?_
    refine g_if_ne X dX7_refers_13 (tgt := 19) (by decide) hf (fun c6 hf => ?_) (fun c6 hf => ?_)
    · refine g_bipush X dX7_refers_16 (v := (-11)) (by decide) ?_
      exact g_iret X hr dX7_refers_18 hf
    · refine g_aload_n X (i := 0) dX7_refers_19 rfl rfl ?_
      refine g_get X (q0 := 0) (v := .ref (ad 1)) 0 dX7_refers_20 gC_X7 rfl rfl (by decide) fl_X7_7 rfl rfl ?_
      refine g_iload_n X (i := 1) dX7_refers_23 rfl rfl ?_
      refine g_if_ne X dX7_refers_24 (tgt := 33) (by decide) hf (fun c7 hf => ?_) (fun c7 hf => ?_)
      · refine g_sipush X dX7_refers_27 (v := 218) (by decide) ?_
        refine g_goto X dX7_refers_30 (tgt := 36) (by decide) ?_
        refine g_iload_n X (i := 2) dX7_refers_36 rfl rfl ?_
        refine g_iadd X dX7_refers_37 ?_
        obtain ⟨hb8, hf⟩ := hfg hf
        refine g_iald X (q0 := 1) (f := o4.2.2 0) dX7_refers_38 rfl hb8 ?_
        refine g_istore_n X (i := 3) dX7_refers_39 rfl (by decide) rfl ?_
        refine g_iload_n X (i := 3) dX7_refers_40 rfl rfl ?_
        refine g_if_ge X dX7_refers_41 (tgt := 49) (by decide) hf (fun c9 hf => ?_) (fun c9 hf => ?_)
        · refine g_bipush X dX7_refers_44 (v := (-14)) (by decide) ?_
          refine g_goto X dX7_refers_46 (tgt := 50) (by decide) ?_
          exact g_iret X hr dX7_refers_50 hf
        · refine g_iload_n X (i := 3) dX7_refers_49 rfl rfl ?_
          exact g_iret X hr dX7_refers_50 hf
      · refine g_sipush X dX7_refers_33 (v := 222) (by decide) ?_
        refine g_iload_n X (i := 2) dX7_refers_36 rfl rfl ?_
        refine g_iadd X dX7_refers_37 ?_
        obtain ⟨hb10, hf⟩ := hfg hf
        refine g_iald X (q0 := 1) (f := o4.2.2 0) dX7_refers_38 rfl hb10 ?_
        refine g_istore_n X (i := 3) dX7_refers_39 rfl (by decide) rfl ?_
        refine g_iload_n X (i := 3) dX7_refers_40 rfl rfl ?_
        refine g_if_ge X dX7_refers_41 (tgt := 49) (by decide) hf (fun c11 hf => ?_) (fun c11 hf => ?_)
        · refine g_bipush X dX7_refers_44 (v := (-14)) (by decide) ?_
          refine g_goto X dX7_refers_46 (tgt := 50) (by decide) ?_
          exact g_iret X hr dX7_refers_50 hf
        · refine g_iload_n X (i := 3) dX7_refers_49 rfl rfl ?_
          exact g_iret X hr dX7_refers_50 hf
def f_X7_restore (w : St) : Option (Int32 × St) := (if (w.1 0) = 0 then some ((-12), w) else (f_X7_changes w).bind fun o2 => (f_X7_copies_51 o2.2).bind fun o4 => (f_X7_count 0 o4.2).bind fun o6 => some (o6.1, o6.2))
set_option maxRecDepth 100000 in
set_option maxHeartbeats 4000000 in
theorem c_X7_restore {l : Launch} {D : va_G} {cI : ClassId × ClassId} {A : Nat → Prop} {ad : Nat → Nat} {w : St} {o : Int32 × St} (hf : f_X7_restore w = some o) : CTi l D cI A yX7_restore cX7_restore 1 (some .int) rm_X7_restore [.ref (ad 0)] ((wM ad cI) w) o.1 ((wM ad cI) o.2)   := by
  refine CTi.of (by decide +kernel) rfl (Nat.le_of_ble_eq_true rfl) ?_
  intro p e s m args below meth c X hr
  have X : gX p s m args meth c cX7_restore 1 RX7 D cI := X
  show G _ _ _ _ _ _ _ _ _ _ _ _ _ _ _ _ _ 0 [some (.ref (ad 0))] [] w
  unfold f_X7_restore at hf
  refine g_aload_n X (i := 0) dX7_restore_0 rfl rfl ?_
  refine g_get X (q0 := 0) (v := .int (w.1 0)) 5 dX7_restore_1 gC_X7 rfl rfl (by decide) fl_X7_135 rfl rfl ?_
  refine g_if_ne X dX7_restore_4 (tgt := 10) (by decide) hf (fun c1 hf => ?_) (fun c1 hf => ?_)
  · refine g_bipush X dX7_restore_7 (v := (-12)) (by decide) ?_
    exact g_iret X hr dX7_restore_9 hf
  · refine g_aload_n X (i := 0) dX7_restore_10 rfl rfl ?_
    obtain ⟨o2, h3, hf⟩ := hfb hf
    refine g_Vv X (q0 := 0) (As := []) (rest := []) (c_X7_changes h3) dX7_restore_11 ml_X7_81 yv_X7_changes rfl rfl rfl rfl ⟨Nat.le_of_ble_eq_true rfl, Nat.le_of_ble_eq_true rfl⟩ ⟨rfl, rfl⟩ (Nat.le_of_ble_eq_true rfl) ⟨Nat.le_of_ble_eq_true rfl, Nat.le_of_ble_eq_true rfl⟩ ?_
    refine g_aload_n X (i := 0) dX7_restore_14 rfl rfl ?_
    refine g_get X (q0 := 0) (v := .ref (ad 5)) 4 dX7_restore_15 gC_X7 rfl rfl (by decide) fl_X7_22 rfl rfl ?_
    refine g_aload_n X (i := 0) dX7_restore_18 rfl rfl ?_
    refine g_get X (q0 := 0) (v := .ref (ad 1)) 0 dX7_restore_19 gC_X7 rfl rfl (by decide) fl_X7_7 rfl rfl ?_
    obtain ⟨o4, h5, hf⟩ := hfb hf
    refine g_Sv X (As := [.ref (ad 5), .ref (ad 1)]) (rest := []) (c_X7_copies_51 h5) dX7_restore_22 ml_X7_138 yv_X7_copies rfl rfl ⟨Nat.le_of_ble_eq_true rfl, Nat.le_of_ble_eq_true rfl⟩ ⟨rfl, rfl⟩ (Nat.le_of_ble_eq_true rfl) ⟨Nat.le_of_ble_eq_true rfl, Nat.le_of_ble_eq_true rfl⟩ ?_
    refine g_aload_n X (i := 0) dX7_restore_25 rfl rfl ?_
    refine g_iconst X dX7_restore_26 (v := 0) (by decide) ?_
    obtain ⟨o6, h7, hf⟩ := hfb hf
    refine g_Vi X (q0 := 0) (As := [.int 0]) (rest := []) (c_X7_count h7) dX7_restore_27 ml_X7_142 yv_X7_count rfl rfl rfl rfl ⟨Nat.le_of_ble_eq_true rfl, Nat.le_of_ble_eq_true rfl⟩ ⟨rfl, rfl⟩ (Nat.le_of_ble_eq_true rfl) ⟨Nat.le_of_ble_eq_true rfl, Nat.le_of_ble_eq_true rfl⟩ ?_
    exact g_iret X hr dX7_restore_30 hf
def f_X7_set (x1 : Int32) (w : St) : Option (Int32 × St) := (f_X7_in x1 1 2 w).bind fun o1 => (if o1.1 = 0 then some ((-11), o1.2) else if ib 226 235 then (if (0 : Int32) < (o1.2.2 0 (226 : Int32).toNatClampNeg) then some ((-12), o1.2) else (f_X7_changes o1.2).bind fun o6 => if ib 234 235 then if ib 234 235 then some (o6.2.2 0 (234 : Int32).toNatClampNeg, sA o6.2 0 234 x1) else none else none) else none)
set_option maxRecDepth 100000 in
set_option maxHeartbeats 4000000 in
theorem c_X7_set {l : Launch} {D : va_G} {cI : ClassId × ClassId} {A : Nat → Prop} {ad : Nat → Nat} {x1 : Int32} {w : St} {o : Int32 × St} (hf : f_X7_set x1 w = some o) : CTi l D cI A yX7_set cX7_set 3 (some .int) rm_X7_set [.ref (ad 0), .int x1] ((wM ad cI) w) o.1 ((wM ad cI) o.2)   := by
  refine CTi.of (by decide +kernel) rfl (Nat.le_of_ble_eq_true rfl) ?_
  intro p e s m args below meth c X hr
  have X : gX p s m args meth c cX7_set 3 RX7 D cI := X
  show G _ _ _ _ _ _ _ _ _ _ _ _ _ _ _ _ _ 0 [some (.ref (ad 0)), some (.int x1), none] [] w
  unfold f_X7_set at hf
  refine g_iload_n X (i := 1) dX7_set_0 rfl rfl ?_
  refine g_iconst X dX7_set_1 (v := 1) (by decide) ?_
  refine g_iconst X dX7_set_2 (v := 2) (by decide) ?_
  obtain ⟨o1, h2, hf⟩ := hfb hf
  refine g_Si X (As := [.int x1, .int 1, .int 2]) (rest := []) (c_X7_in (wf := (wM ad cI)) h2) dX7_set_3 ml_X7_39 yv_X7_in rfl rfl ⟨Nat.le_of_ble_eq_true rfl, Nat.le_of_ble_eq_true rfl⟩ ⟨rfl, rfl⟩ (Nat.le_of_ble_eq_true rfl) ⟨Nat.le_of_ble_eq_true rfl, Nat.le_of_ble_eq_true rfl⟩ ?_
  refine g_if_ne X dX7_set_6 (tgt := 12) (by decide) hf (fun c3 hf => ?_) (fun c3 hf => ?_)
  · refine g_bipush X dX7_set_9 (v := (-11)) (by decide) ?_
    exact g_iret X hr dX7_set_11 hf
  · refine g_aload_n X (i := 0) dX7_set_12 rfl rfl ?_
    refine g_get X (q0 := 0) (v := .ref (ad 1)) 0 dX7_set_13 gC_X7 rfl rfl (by decide) fl_X7_7 rfl rfl ?_
    refine g_sipush X dX7_set_16 (v := 226) (by decide) ?_
    obtain ⟨hb4, hf⟩ := hfg hf
    refine g_iald X (q0 := 1) (f := o1.2.2 0) dX7_set_19 rfl hb4 ?_
    refine g_if_le X dX7_set_20 (tgt := 26) (by decide) hf (fun c5 hf => ?_) (fun c5 hf => ?_)
    · refine g_bipush X dX7_set_23 (v := (-12)) (by decide) ?_
      exact g_iret X hr dX7_set_25 hf
    · refine g_aload_n X (i := 0) dX7_set_26 rfl rfl ?_
      obtain ⟨o6, h7, hf⟩ := hfb hf
      refine g_Vv X (q0 := 0) (As := []) (rest := []) (c_X7_changes h7) dX7_set_27 ml_X7_81 yv_X7_changes rfl rfl rfl rfl ⟨Nat.le_of_ble_eq_true rfl, Nat.le_of_ble_eq_true rfl⟩ ⟨rfl, rfl⟩ (Nat.le_of_ble_eq_true rfl) ⟨Nat.le_of_ble_eq_true rfl, Nat.le_of_ble_eq_true rfl⟩ ?_
      refine g_aload_n X (i := 0) dX7_set_30 rfl rfl ?_
      refine g_get X (q0 := 0) (v := .ref (ad 1)) 0 dX7_set_31 gC_X7 rfl rfl (by decide) fl_X7_7 rfl rfl ?_
      refine g_sipush X dX7_set_34 (v := 234) (by decide) ?_
      obtain ⟨hb8, hf⟩ := hfg hf
      refine g_iald X (q0 := 1) (f := o6.2.2 0) dX7_set_37 rfl hb8 ?_
      refine g_istore_n X (i := 2) dX7_set_38 rfl (by decide) rfl ?_
      refine g_aload_n X (i := 0) dX7_set_39 rfl rfl ?_
      refine g_get X (q0 := 0) (v := .ref (ad 1)) 0 dX7_set_40 gC_X7 rfl rfl (by decide) fl_X7_7 rfl rfl ?_
      refine g_sipush X dX7_set_43 (v := 234) (by decide) ?_
      refine g_iload_n X (i := 1) dX7_set_46 rfl rfl ?_
      obtain ⟨hb9, hf⟩ := hfg hf
      refine g_iast X (q0 := 1) (f := o6.2.2 0) dX7_set_47 rfl hb9 (awM_0 ad cI _ _ _) ?_
      refine g_iload_n X (i := 2) dX7_set_48 rfl rfl ?_
      exact g_iret X hr dX7_set_49 hf
def f_X7_type (x1 : Int32) (w : St) : Option (Int32 × St) := (f_X7_in x1 32 126 w).bind fun o1 => (if o1.1 = 0 then some ((-11), o1.2) else (if (o1.2.1 3) = 60 then some ((-13), o1.2) else if ib (o1.2.1 3) 60 then some ((o1.2.1 3) + 1, sR (sA o1.2 5 (o1.2.1 3) x1) 3 ((o1.2.1 3) + 1)) else none))
set_option maxRecDepth 100000 in
set_option maxHeartbeats 4000000 in
theorem c_X7_type {l : Launch} {D : va_G} {cI : ClassId × ClassId} {A : Nat → Prop} {ad : Nat → Nat} {x1 : Int32} {w : St} {o : Int32 × St} (hf : f_X7_type x1 w = some o) : CTi l D cI A yX7_type cX7_type 2 (some .int) rm_X7_type [.ref (ad 0), .int x1] ((wM ad cI) w) o.1 ((wM ad cI) o.2)   := by
  refine CTi.of (by decide +kernel) rfl (Nat.le_of_ble_eq_true rfl) ?_
  intro p e s m args below meth c X hr
  have X : gX p s m args meth c cX7_type 2 RX7 D cI := X
  show G _ _ _ _ _ _ _ _ _ _ _ _ _ _ _ _ _ 0 [some (.ref (ad 0)), some (.int x1)] [] w
  unfold f_X7_type at hf
  refine g_iload_n X (i := 1) dX7_type_0 rfl rfl ?_
  refine g_bipush X dX7_type_1 (v := 32) (by decide) ?_
  refine g_bipush X dX7_type_3 (v := 126) (by decide) ?_
  obtain ⟨o1, h2, hf⟩ := hfb hf
  refine g_Si X (As := [.int x1, .int 32, .int 126]) (rest := []) (c_X7_in (wf := (wM ad cI)) h2) dX7_type_5 ml_X7_39 yv_X7_in rfl rfl ⟨Nat.le_of_ble_eq_true rfl, Nat.le_of_ble_eq_true rfl⟩ ⟨rfl, rfl⟩ (Nat.le_of_ble_eq_true rfl) ⟨Nat.le_of_ble_eq_true rfl, Nat.le_of_ble_eq_true rfl⟩ ?_
  refine g_if_ne X dX7_type_8 (tgt := 14) (by decide) hf (fun c3 hf => ?_) (fun c3 hf => ?_)
  · refine g_bipush X dX7_type_11 (v := (-11)) (by decide) ?_
    exact g_iret X hr dX7_type_13 hf
  · refine g_aload_n X (i := 0) dX7_type_14 rfl rfl ?_
    refine g_get X (q0 := 0) (v := .int (o1.2.1 3)) 9 dX7_type_15 gC_X7 rfl rfl (by decide) fl_X7_132 rfl rfl ?_
    refine g_bipush X dX7_type_18 (v := 60) (by decide) ?_
    refine g_icmp_ne X dX7_type_20 (tgt := 26) (by decide) hf (fun c4 hf => ?_) (fun c4 hf => ?_)
    · refine g_bipush X dX7_type_23 (v := (-13)) (by decide) ?_
      exact g_iret X hr dX7_type_25 hf
    · refine g_aload_n X (i := 0) dX7_type_26 rfl rfl ?_
      refine g_get X (q0 := 0) (v := .ref (ad 6)) 8 dX7_type_27 gC_X7 rfl rfl (by decide) fl_X7_25 rfl rfl ?_
      refine g_aload_n X (i := 0) dX7_type_30 rfl rfl ?_
      refine g_get X (q0 := 0) (v := .int (o1.2.1 3)) 9 dX7_type_31 gC_X7 rfl rfl (by decide) fl_X7_132 rfl rfl ?_
      refine g_iload_n X (i := 1) dX7_type_34 rfl rfl ?_
      obtain ⟨hb5, hf⟩ := hfg hf
      refine g_iast X (q0 := 6) (f := o1.2.2 5) dX7_type_35 rfl hb5 (awM_5 ad cI _ _ _) ?_
      refine g_aload_n X (i := 0) dX7_type_36 rfl rfl ?_
      refine g_dup X dX7_type_37 rfl ?_
      refine g_get X (q0 := 0) (v := .int (o1.2.1 3)) 9 dX7_type_38 gC_X7 rfl rfl (by decide) fl_X7_132 rfl rfl ?_
      refine g_iconst X dX7_type_41 (v := 1) (by decide) ?_
      refine g_iadd X dX7_type_42 ?_
      refine g_put X (q0 := 0) 9 dX7_type_43 gC_X7 rfl rfl (by decide) fl_X7_132 rfl rfl rfl rfl (Nat.le_of_ble_eq_true rfl) (pwM_3 ad cI _ _) ?_
      refine g_aload_n X (i := 0) dX7_type_46 rfl rfl ?_
      refine g_get X (q0 := 0) (v := .int ((o1.2.1 3) + 1)) 9 dX7_type_47 gC_X7 rfl rfl (by decide) fl_X7_132 rfl rfl ?_
      exact g_iret X hr dX7_type_50 hf
def f_X7_undo_L22 : Nat → Int32 → St → Option (St)
  | 0, _, _ => none
  | n + 1, x1, w => (if x1 < 235 then if ib ((235 * (w.1 1)) + x1) 940 then if ib x1 235 then f_X7_undo_L22 n (x1 + 1) (sA w 0 x1 (w.2 1 ((235 * (w.1 1)) + x1).toNatClampNeg)) else none else none else some (w))
def f_X7_undo (w : St) : Option (Int32 × St) := (if (w.1 1) = 0 then some ((-12), w) else (f_X7_undo_L22 BIG 0 (sR w 1 ((w.1 1) - 1))).bind fun o5 => some (o5.1 1, o5))
set_option maxRecDepth 100000 in
set_option maxHeartbeats 4000000 in
theorem gl_X7_undo_L22 {p : Program} {l : Launch} {e : Env} {s : State} {m : MethodId} {args : Array Value} {below : List Frame} {meth : Method} {c : Code} {D : va_G} {A : Nat → Prop} {cI : ClassId × ClassId} {ad : Nat → Nat} {Q : State → Prop} {o : St} (X : gX p s m args meth c cX7_undo 2 RX7 D cI) (n : Nat) : ∀ {x1 : Int32} {w : St}, f_X7_undo_L22 n x1 w = some o → G p l e rm_X7_undo s m args below meth c D A 2 Q (wM ad cI) 0 0 56 [some (.ref (ad 0)), none] [] o → G p l e rm_X7_undo s m args below meth c D A 2 Q (wM ad cI) 0 0 22 [some (.ref (ad 0)), some (.int x1)] [] w := by
  induction n with
  | zero => intro x1 w hf; cases hf
  | succ n ih =>
    intro x1 w hf k
    rw [f_X7_undo_L22] at hf
    refine g_iload_n X (i := 1) dX7_undo_22 rfl rfl ?_
    refine g_sipush X dX7_undo_23 (v := 235) (by decide) ?_
    refine g_icmp_ge X dX7_undo_26 (tgt := 56) (by decide) hf (fun c2 hf => ?_) (fun c2 hf => ?_)
    · refine g_aload_n X (i := 0) dX7_undo_29 rfl rfl ?_
      refine g_get X (q0 := 0) (v := .ref (ad 1)) 0 dX7_undo_30 gC_X7 rfl rfl (by decide) fl_X7_7 rfl rfl ?_
      refine g_iload_n X (i := 1) dX7_undo_33 rfl rfl ?_
      refine g_aload_n X (i := 0) dX7_undo_34 rfl rfl ?_
      refine g_get X (q0 := 0) (v := .ref (ad 2)) 1 dX7_undo_35 gC_X7 rfl rfl (by decide) fl_X7_13 rfl rfl ?_
      refine g_sipush X dX7_undo_38 (v := 235) (by decide) ?_
      refine g_aload_n X (i := 0) dX7_undo_41 rfl rfl ?_
      refine g_get X (q0 := 0) (v := .int (w.1 1)) 6 dX7_undo_42 gC_X7 rfl rfl (by decide) fl_X7_35 rfl rfl ?_
      refine g_imul X dX7_undo_45 ?_
      refine g_iload_n X (i := 1) dX7_undo_46 rfl rfl ?_
      refine g_iadd X dX7_undo_47 ?_
      obtain ⟨hb3, hf⟩ := hfg hf
      refine g_iald X (q0 := 2) (f := w.2 1) dX7_undo_48 rfl hb3 ?_
      obtain ⟨hb4, hf⟩ := hfg hf
      refine g_iast X (q0 := 1) (f := w.2 0) dX7_undo_49 rfl hb4 (awM_0 ad cI _ _ _) ?_
      refine g_iinc X (i := 1) (v := 1) dX7_undo_50 rfl (by decide) (by decide) rfl ?_
      refine g_goto X dX7_undo_53 (tgt := 22) (by decide) ?_
      exact ih hf k
    · obtain rfl := Option.some.inj hf
      refine g_sub (losub (lo' := [some (.ref (ad 0)), none]) ⟨rfl, trivial⟩) ?_
      exact k
set_option maxRecDepth 100000 in
set_option maxHeartbeats 4000000 in
theorem c_X7_undo {l : Launch} {D : va_G} {cI : ClassId × ClassId} {A : Nat → Prop} {ad : Nat → Nat} {w : St} {o : Int32 × St} (hf : f_X7_undo w = some o) : CTi l D cI A yX7_undo cX7_undo 2 (some .int) rm_X7_undo [.ref (ad 0)] ((wM ad cI) w) o.1 ((wM ad cI) o.2)   := by
  refine CTi.of (by decide +kernel) rfl (Nat.le_of_ble_eq_true rfl) ?_
  intro p e s m args below meth c X hr
  have X : gX p s m args meth c cX7_undo 2 RX7 D cI := X
  show G _ _ _ _ _ _ _ _ _ _ _ _ _ _ _ _ _ 0 [some (.ref (ad 0)), none] [] w
  unfold f_X7_undo at hf
  refine g_aload_n X (i := 0) dX7_undo_0 rfl rfl ?_
  refine g_get X (q0 := 0) (v := .int (w.1 1)) 6 dX7_undo_1 gC_X7 rfl rfl (by decide) fl_X7_35 rfl rfl ?_
  refine g_if_ne X dX7_undo_4 (tgt := 10) (by decide) hf (fun c1 hf => ?_) (fun c1 hf => ?_)
  · refine g_bipush X dX7_undo_7 (v := (-12)) (by decide) ?_
    exact g_iret X hr dX7_undo_9 hf
  · refine g_aload_n X (i := 0) dX7_undo_10 rfl rfl ?_
    refine g_dup X dX7_undo_11 rfl ?_
    refine g_get X (q0 := 0) (v := .int (w.1 1)) 6 dX7_undo_12 gC_X7 rfl rfl (by decide) fl_X7_35 rfl rfl ?_
    refine g_iconst X dX7_undo_15 (v := 1) (by decide) ?_
    refine g_isub X dX7_undo_16 ?_
    refine g_put X (q0 := 0) 6 dX7_undo_17 gC_X7 rfl rfl (by decide) fl_X7_35 rfl rfl rfl rfl (Nat.le_of_ble_eq_true rfl) (pwM_1 ad cI _ _) ?_
    refine g_iconst X dX7_undo_20 (v := 0) (by decide) ?_
    refine g_istore_n X (i := 1) dX7_undo_21 rfl (by decide) rfl ?_
    obtain ⟨o5, h6, hf⟩ := hfb hf
    refine gl_X7_undo_L22 X BIG h6 ?_
    refine g_aload_n X (i := 0) dX7_undo_56 rfl rfl ?_
    refine g_get X (q0 := 0) (v := .int (o5.1 1)) 6 dX7_undo_57 gC_X7 rfl rfl (by decide) fl_X7_35 rfl rfl ?_
    exact g_iret X hr dX7_undo_60 hf
def f_X7_wanting_L4 : Nat → Int32 → Int32 → St → Option (Int32 × St)
  | 0, _, _, _ => none
  | n + 1, x1, x2, w => (if x2 < 24 then (f_X7_of x2 0 w).bind fun o2 => (if o2.1 = 1 then (f_X7_of x2 4 o2.2).bind fun o5 => f_X7_wanting_L4 n (x1 + o5.1) (x2 + 1) o5.2 else f_X7_wanting_L4 n (x1 + 0) (x2 + 1) o2.2) else some (x1, w))
def f_X7_wanting (w : St) : Option (Int32 × St) := (f_X7_wanting_L4 BIG 0 0 w).bind fun o7 => some (o7.1, o7.2)
set_option maxRecDepth 100000 in
set_option maxHeartbeats 4000000 in
theorem gl_X7_wanting_L4 {p : Program} {l : Launch} {e : Env} {s : State} {m : MethodId} {args : Array Value} {below : List Frame} {meth : Method} {c : Code} {D : va_G} {A : Nat → Prop} {cI : ClassId × ClassId} {ad : Nat → Nat} {Q : State → Prop} {o : Int32 × St} (X : gX p s m args meth c cX7_wanting 3 RX7 D cI) (n : Nat) : ∀ {x1 x2 : Int32} {w : St}, f_X7_wanting_L4 n x1 x2 w = some o → G p l e rm_X7_wanting s m args below meth c D A 3 Q (wM ad cI) 0 0 39 [none, some (.int o.1), none] [] o.2 → G p l e rm_X7_wanting s m args below meth c D A 3 Q (wM ad cI) 0 0 4 [some (.ref (ad 0)), some (.int x1), some (.int x2)] [] w := by
  induction n with
  | zero => intro x1 x2 w hf; cases hf
  | succ n ih =>
    intro x1 x2 w hf k
    rw [f_X7_wanting_L4] at hf
    refine g_iload_n X (i := 2) dX7_wanting_4 rfl rfl ?_
    refine g_bipush X dX7_wanting_5 (v := 24) (by decide) ?_
    refine g_icmp_ge X dX7_wanting_7 (tgt := 39) (by decide) hf (fun c1 hf => ?_) (fun c1 hf => ?_)
    · refine g_iload_n X (i := 1) dX7_wanting_10 rfl rfl ?_
      refine g_aload_n X (i := 0) dX7_wanting_11 rfl rfl ?_
      refine g_iload_n X (i := 2) dX7_wanting_12 rfl rfl ?_
      refine g_iconst X dX7_wanting_13 (v := 0) (by decide) ?_
      obtain ⟨o2, h3, hf⟩ := hfb hf
      refine g_Vi X (q0 := 0) (As := [.int x2, .int 0]) (rest := [.int x1]) (c_X7_of h3) dX7_wanting_14 ml_X7_43 yv_X7_of rfl rfl rfl rfl ⟨Nat.le_of_ble_eq_true rfl, Nat.le_of_ble_eq_true rfl⟩ ⟨rfl, rfl⟩ (Nat.le_of_ble_eq_true rfl) ⟨Nat.le_of_ble_eq_true rfl, Nat.le_of_ble_eq_true rfl⟩ ?_
      refine g_iconst X dX7_wanting_17 (v := 1) (by decide) ?_
      refine g_icmp_ne X dX7_wanting_18 (tgt := 30) (by decide) hf (fun c4 hf => ?_) (fun c4 hf => ?_)
      · refine g_aload_n X (i := 0) dX7_wanting_21 rfl rfl ?_
        refine g_iload_n X (i := 2) dX7_wanting_22 rfl rfl ?_
        refine g_iconst X dX7_wanting_23 (v := 4) (by decide) ?_
        obtain ⟨o5, h6, hf⟩ := hfb hf
        refine g_Vi X (q0 := 0) (As := [.int x2, .int 4]) (rest := [.int x1]) (c_X7_of h6) dX7_wanting_24 ml_X7_43 yv_X7_of rfl rfl rfl rfl ⟨Nat.le_of_ble_eq_true rfl, Nat.le_of_ble_eq_true rfl⟩ ⟨rfl, rfl⟩ (Nat.le_of_ble_eq_true rfl) ⟨Nat.le_of_ble_eq_true rfl, Nat.le_of_ble_eq_true rfl⟩ ?_
        refine g_goto X dX7_wanting_27 (tgt := 31) (by decide) ?_
        refine g_iadd X dX7_wanting_31 ?_
        refine g_istore_n X (i := 1) dX7_wanting_32 rfl (by decide) rfl ?_
        refine g_iinc X (i := 2) (v := 1) dX7_wanting_33 rfl (by decide) (by decide) rfl ?_
        refine g_goto X dX7_wanting_36 (tgt := 4) (by decide) ?_
        exact ih hf k
      · refine g_iconst X dX7_wanting_30 (v := 0) (by decide) ?_
        refine g_iadd X dX7_wanting_31 ?_
        refine g_istore_n X (i := 1) dX7_wanting_32 rfl (by decide) rfl ?_
        refine g_iinc X (i := 2) (v := 1) dX7_wanting_33 rfl (by decide) (by decide) rfl ?_
        refine g_goto X dX7_wanting_36 (tgt := 4) (by decide) ?_
        exact ih hf k
    · obtain rfl := Option.some.inj hf
      refine g_sub (losub (lo' := [none, some (.int x1), none]) ⟨rfl, trivial⟩) ?_
      exact k
set_option maxRecDepth 100000 in
set_option maxHeartbeats 4000000 in
theorem c_X7_wanting {l : Launch} {D : va_G} {cI : ClassId × ClassId} {A : Nat → Prop} {ad : Nat → Nat} {w : St} {o : Int32 × St} (hf : f_X7_wanting w = some o) : CTi l D cI A yX7_wanting cX7_wanting 3 (some .int) rm_X7_wanting [.ref (ad 0)] ((wM ad cI) w) o.1 ((wM ad cI) o.2)   := by
  refine CTi.of (by decide +kernel) rfl (Nat.le_of_ble_eq_true rfl) ?_
  intro p e s m args below meth c X hr
  have X : gX p s m args meth c cX7_wanting 3 RX7 D cI := X
  show G _ _ _ _ _ _ _ _ _ _ _ _ _ _ _ _ _ 0 [some (.ref (ad 0)), none, none] [] w
  unfold f_X7_wanting at hf
  refine g_iconst X dX7_wanting_0 (v := 0) (by decide) ?_
  refine g_istore_n X (i := 1) dX7_wanting_1 rfl (by decide) rfl ?_
  refine g_iconst X dX7_wanting_2 (v := 0) (by decide) ?_
  refine g_istore_n X (i := 2) dX7_wanting_3 rfl (by decide) rfl ?_
  obtain ⟨o7, h8, hf⟩ := hfb hf
  refine gl_X7_wanting_L4 X BIG h8 ?_
  refine g_iload_n X (i := 1) dX7_wanting_39 rfl rfl ?_
  exact g_iret X hr dX7_wanting_40 hf
def f_X7_want (x1 : Int32) (w : St) : Option (Int32 × St) := (f_X7_isObject x1 w).bind fun o1 => (if o1.1 = 0 then some ((-11), o1.2) else (f_X7_isReached x1 o1.2).bind fun o4 => (if o4.1 = 0 then some ((-12), o4.2) else (f_X7_of x1 4 o4.2).bind fun o7 => (if o7.1 = 1 then some ((-12), o7.2) else (f_X7_changes o7.2).bind fun o10 => (f_X7_sets x1 4 1 o10.2).bind fun o12 => (f_X7_wanting o12.2).bind fun o14 => some (o14.1, o14.2))))
set_option maxRecDepth 100000 in
set_option maxHeartbeats 4000000 in
theorem c_X7_want {l : Launch} {D : va_G} {cI : ClassId × ClassId} {A : Nat → Prop} {ad : Nat → Nat} {x1 : Int32} {w : St} {o : Int32 × St} (hf : f_X7_want x1 w = some o) : CTi l D cI A yX7_want cX7_want 2 (some .int) rm_X7_want [.ref (ad 0), .int x1] ((wM ad cI) w) o.1 ((wM ad cI) o.2)   := by
  refine CTi.of (by decide +kernel) rfl (Nat.le_of_ble_eq_true rfl) ?_
  intro p e s m args below meth c X hr
  have X : gX p s m args meth c cX7_want 2 RX7 D cI := X
  show G _ _ _ _ _ _ _ _ _ _ _ _ _ _ _ _ _ 0 [some (.ref (ad 0)), some (.int x1)] [] w
  unfold f_X7_want at hf
  refine g_aload_n X (i := 0) dX7_want_0 rfl rfl ?_
  refine g_iload_n X (i := 1) dX7_want_1 rfl rfl ?_
  obtain ⟨o1, h2, hf⟩ := hfb hf
  refine g_Vi X (q0 := 0) (As := [.int x1]) (rest := []) (c_X7_isObject h2) dX7_want_2 ml_X7_87 yv_X7_isObject rfl rfl rfl rfl ⟨Nat.le_of_ble_eq_true rfl, Nat.le_of_ble_eq_true rfl⟩ ⟨rfl, rfl⟩ (Nat.le_of_ble_eq_true rfl) ⟨Nat.le_of_ble_eq_true rfl, Nat.le_of_ble_eq_true rfl⟩ ?_
  refine g_if_ne X dX7_want_5 (tgt := 11) (by decide) hf (fun c3 hf => ?_) (fun c3 hf => ?_)
  · refine g_bipush X dX7_want_8 (v := (-11)) (by decide) ?_
    exact g_iret X hr dX7_want_10 hf
  · refine g_aload_n X (i := 0) dX7_want_11 rfl rfl ?_
    refine g_iload_n X (i := 1) dX7_want_12 rfl rfl ?_
    obtain ⟨o4, h5, hf⟩ := hfb hf
    refine g_Vi X (q0 := 0) (As := [.int x1]) (rest := []) (c_X7_isReached h5) dX7_want_13 ml_X7_90 yv_X7_isReached rfl rfl rfl rfl ⟨Nat.le_of_ble_eq_true rfl, Nat.le_of_ble_eq_true rfl⟩ ⟨rfl, rfl⟩ (Nat.le_of_ble_eq_true rfl) ⟨Nat.le_of_ble_eq_true rfl, Nat.le_of_ble_eq_true rfl⟩ ?_
    refine g_if_eq X dX7_want_16 (tgt := 29) (by decide) hf (fun c6 hf => ?_) (fun c6 hf => ?_)
    · refine g_bipush X dX7_want_29 (v := (-12)) (by decide) ?_
      exact g_iret X hr dX7_want_31 hf
    · refine g_aload_n X (i := 0) dX7_want_19 rfl rfl ?_
      refine g_iload_n X (i := 1) dX7_want_20 rfl rfl ?_
      refine g_iconst X dX7_want_21 (v := 4) (by decide) ?_
      obtain ⟨o7, h8, hf⟩ := hfb hf
      refine g_Vi X (q0 := 0) (As := [.int x1, .int 4]) (rest := []) (c_X7_of h8) dX7_want_22 ml_X7_43 yv_X7_of rfl rfl rfl rfl ⟨Nat.le_of_ble_eq_true rfl, Nat.le_of_ble_eq_true rfl⟩ ⟨rfl, rfl⟩ (Nat.le_of_ble_eq_true rfl) ⟨Nat.le_of_ble_eq_true rfl, Nat.le_of_ble_eq_true rfl⟩ ?_
      refine g_iconst X dX7_want_25 (v := 1) (by decide) ?_
      refine g_icmp_ne X dX7_want_26 (tgt := 32) (by decide) hf (fun c9 hf => ?_) (fun c9 hf => ?_)
      · refine g_bipush X dX7_want_29 (v := (-12)) (by decide) ?_
        exact g_iret X hr dX7_want_31 hf
      · refine g_aload_n X (i := 0) dX7_want_32 rfl rfl ?_
        obtain ⟨o10, h11, hf⟩ := hfb hf
        refine g_Vv X (q0 := 0) (As := []) (rest := []) (c_X7_changes h11) dX7_want_33 ml_X7_81 yv_X7_changes rfl rfl rfl rfl ⟨Nat.le_of_ble_eq_true rfl, Nat.le_of_ble_eq_true rfl⟩ ⟨rfl, rfl⟩ (Nat.le_of_ble_eq_true rfl) ⟨Nat.le_of_ble_eq_true rfl, Nat.le_of_ble_eq_true rfl⟩ ?_
        refine g_aload_n X (i := 0) dX7_want_36 rfl rfl ?_
        refine g_iload_n X (i := 1) dX7_want_37 rfl rfl ?_
        refine g_iconst X dX7_want_38 (v := 4) (by decide) ?_
        refine g_iconst X dX7_want_39 (v := 1) (by decide) ?_
        obtain ⟨o12, h13, hf⟩ := hfb hf
        refine g_Vv X (q0 := 0) (As := [.int x1, .int 4, .int 1]) (rest := []) (c_X7_sets h13) dX7_want_40 ml_X7_58 yv_X7_sets rfl rfl rfl rfl ⟨Nat.le_of_ble_eq_true rfl, Nat.le_of_ble_eq_true rfl⟩ ⟨rfl, rfl⟩ (Nat.le_of_ble_eq_true rfl) ⟨Nat.le_of_ble_eq_true rfl, Nat.le_of_ble_eq_true rfl⟩ ?_
        refine g_aload_n X (i := 0) dX7_want_43 rfl rfl ?_
        obtain ⟨o14, h15, hf⟩ := hfb hf
        refine g_Vi X (q0 := 0) (As := []) (rest := []) (c_X7_wanting h15) dX7_want_44 ml_X7_93 yv_X7_wanting rfl rfl rfl rfl ⟨Nat.le_of_ble_eq_true rfl, Nat.le_of_ble_eq_true rfl⟩ ⟨rfl, rfl⟩ (Nat.le_of_ble_eq_true rfl) ⟨Nat.le_of_ble_eq_true rfl, Nat.le_of_ble_eq_true rfl⟩ ?_
        exact g_iret X hr dX7_want_47 hf
def f_X7_weak (x1 x2 : Int32) (w : St) : Option (Int32 × St) := (f_X7_isRoot x1 w).bind fun o1 => (if o1.1 = 0 then some ((-11), o1.2) else (if x2 = (-1) then (if x2 < 0 then (f_X7_changes o1.2).bind fun o6 => if ib (222 + x1) 235 then if ib (222 + x1) 235 then some (o6.2.2 0 (222 + x1).toNatClampNeg, sA o6.2 0 (222 + x1) x2) else none else none else (f_X7_isReached x2 o1.2).bind fun o10 => (if o10.1 = 0 then some ((-12), o10.2) else (f_X7_changes o10.2).bind fun o13 => if ib (222 + x1) 235 then if ib (222 + x1) 235 then some (o13.2.2 0 (222 + x1).toNatClampNeg, sA o13.2 0 (222 + x1) x2) else none else none)) else (f_X7_isObject x2 o1.2).bind fun o17 => (if o17.1 = 0 then some ((-11), o17.2) else (if x2 < 0 then (f_X7_changes o17.2).bind fun o21 => if ib (222 + x1) 235 then if ib (222 + x1) 235 then some (o21.2.2 0 (222 + x1).toNatClampNeg, sA o21.2 0 (222 + x1) x2) else none else none else (f_X7_isReached x2 o17.2).bind fun o25 => (if o25.1 = 0 then some ((-12), o25.2) else (f_X7_changes o25.2).bind fun o28 => if ib (222 + x1) 235 then if ib (222 + x1) 235 then some (o28.2.2 0 (222 + x1).toNatClampNeg, sA o28.2 0 (222 + x1) x2) else none else none)))))
set_option maxRecDepth 100000 in
set_option maxHeartbeats 4000000 in
theorem c_X7_weak {l : Launch} {D : va_G} {cI : ClassId × ClassId} {A : Nat → Prop} {ad : Nat → Nat} {x1 x2 : Int32} {w : St} {o : Int32 × St} (hf : f_X7_weak x1 x2 w = some o) : CTi l D cI A yX7_weak cX7_weak 4 (some .int) rm_X7_weak [.ref (ad 0), .int x1, .int x2] ((wM ad cI) w) o.1 ((wM ad cI) o.2)   := by
  refine CTi.of (by decide +kernel) rfl (Nat.le_of_ble_eq_true rfl) ?_
  intro p e s m args below meth c X hr
  have X : gX p s m args meth c cX7_weak 4 RX7 D cI := X
  show G _ _ _ _ _ _ _ _ _ _ _ _ _ _ _ _ _ 0 [some (.ref (ad 0)), some (.int x1), some (.int x2), none] [] w
  unfold f_X7_weak at hf
  refine g_iload_n X (i := 1) dX7_weak_0 rfl rfl ?_
  obtain ⟨o1, h2, hf⟩ := hfb hf
  refine g_Si X (As := [.int x1]) (rest := []) (c_X7_isRoot (wf := (wM ad cI)) h2) dX7_weak_1 ml_X7_74 yv_X7_isRoot rfl rfl ⟨Nat.le_of_ble_eq_true rfl, Nat.le_of_ble_eq_true rfl⟩ ⟨rfl, rfl⟩ (Nat.le_of_ble_eq_true rfl) ⟨Nat.le_of_ble_eq_true rfl, Nat.le_of_ble_eq_true rfl⟩ ?_
  refine g_if_eq X dX7_weak_4 (tgt := 20) (by decide) hf (fun c3 hf => ?_) (fun c3 hf => ?_)
  · refine g_bipush X dX7_weak_20 (v := (-11)) (by decide) ?_
    exact g_iret X hr dX7_weak_22 hf
  · refine g_iload_n X (i := 2) dX7_weak_7 rfl rfl ?_
    refine g_iconst X dX7_weak_8 (v := (-1)) (by decide) ?_
    refine g_icmp_eq X dX7_weak_9 (tgt := 23) (by decide) hf (fun c4 hf => ?_) (fun c4 hf => ?_)
    · refine g_iload_n X (i := 2) dX7_weak_23 rfl rfl ?_
      refine g_if_lt X dX7_weak_24 (tgt := 38) (by decide) hf (fun c5 hf => ?_) (fun c5 hf => ?_)
      · refine g_aload_n X (i := 0) dX7_weak_38 rfl rfl ?_
        obtain ⟨o6, h7, hf⟩ := hfb hf
        refine g_Vv X (q0 := 0) (As := []) (rest := []) (c_X7_changes h7) dX7_weak_39 ml_X7_81 yv_X7_changes rfl rfl rfl rfl ⟨Nat.le_of_ble_eq_true rfl, Nat.le_of_ble_eq_true rfl⟩ ⟨rfl, rfl⟩ (Nat.le_of_ble_eq_true rfl) ⟨Nat.le_of_ble_eq_true rfl, Nat.le_of_ble_eq_true rfl⟩ ?_
        refine g_aload_n X (i := 0) dX7_weak_42 rfl rfl ?_
        refine g_get X (q0 := 0) (v := .ref (ad 1)) 0 dX7_weak_43 gC_X7 rfl rfl (by decide) fl_X7_7 rfl rfl ?_
        refine g_sipush X dX7_weak_46 (v := 222) (by decide) ?_
        refine g_iload_n X (i := 1) dX7_weak_49 rfl rfl ?_
        refine g_iadd X dX7_weak_50 ?_
        obtain ⟨hb8, hf⟩ := hfg hf
        refine g_iald X (q0 := 1) (f := o6.2.2 0) dX7_weak_51 rfl hb8 ?_
        refine g_istore_n X (i := 3) dX7_weak_52 rfl (by decide) rfl ?_
        refine g_aload_n X (i := 0) dX7_weak_53 rfl rfl ?_
        refine g_get X (q0 := 0) (v := .ref (ad 1)) 0 dX7_weak_54 gC_X7 rfl rfl (by decide) fl_X7_7 rfl rfl ?_
        refine g_sipush X dX7_weak_57 (v := 222) (by decide) ?_
        refine g_iload_n X (i := 1) dX7_weak_60 rfl rfl ?_
        refine g_iadd X dX7_weak_61 ?_
        refine g_iload_n X (i := 2) dX7_weak_62 rfl rfl ?_
        obtain ⟨hb9, hf⟩ := hfg hf
        refine g_iast X (q0 := 1) (f := o6.2.2 0) dX7_weak_63 rfl hb9 (awM_0 ad cI _ _ _) ?_
        refine g_iload_n X (i := 3) dX7_weak_64 rfl rfl ?_
        exact g_iret X hr dX7_weak_65 hf
      · refine g_aload_n X (i := 0) dX7_weak_27 rfl rfl ?_
        refine g_iload_n X (i := 2) dX7_weak_28 rfl rfl ?_
        obtain ⟨o10, h11, hf⟩ := hfb hf
        refine g_Vi X (q0 := 0) (As := [.int x2]) (rest := []) (c_X7_isReached h11) dX7_weak_29 ml_X7_90 yv_X7_isReached rfl rfl rfl rfl ⟨Nat.le_of_ble_eq_true rfl, Nat.le_of_ble_eq_true rfl⟩ ⟨rfl, rfl⟩ (Nat.le_of_ble_eq_true rfl) ⟨Nat.le_of_ble_eq_true rfl, Nat.le_of_ble_eq_true rfl⟩ ?_
        refine g_if_ne X dX7_weak_32 (tgt := 38) (by decide) hf (fun c12 hf => ?_) (fun c12 hf => ?_)
        · refine g_bipush X dX7_weak_35 (v := (-12)) (by decide) ?_
          exact g_iret X hr dX7_weak_37 hf
        · refine g_aload_n X (i := 0) dX7_weak_38 rfl rfl ?_
          obtain ⟨o13, h14, hf⟩ := hfb hf
          refine g_Vv X (q0 := 0) (As := []) (rest := []) (c_X7_changes h14) dX7_weak_39 ml_X7_81 yv_X7_changes rfl rfl rfl rfl ⟨Nat.le_of_ble_eq_true rfl, Nat.le_of_ble_eq_true rfl⟩ ⟨rfl, rfl⟩ (Nat.le_of_ble_eq_true rfl) ⟨Nat.le_of_ble_eq_true rfl, Nat.le_of_ble_eq_true rfl⟩ ?_
          refine g_aload_n X (i := 0) dX7_weak_42 rfl rfl ?_
          refine g_get X (q0 := 0) (v := .ref (ad 1)) 0 dX7_weak_43 gC_X7 rfl rfl (by decide) fl_X7_7 rfl rfl ?_
          refine g_sipush X dX7_weak_46 (v := 222) (by decide) ?_
          refine g_iload_n X (i := 1) dX7_weak_49 rfl rfl ?_
          refine g_iadd X dX7_weak_50 ?_
          obtain ⟨hb15, hf⟩ := hfg hf
          refine g_iald X (q0 := 1) (f := o13.2.2 0) dX7_weak_51 rfl hb15 ?_
          refine g_istore_n X (i := 3) dX7_weak_52 rfl (by decide) rfl ?_
          refine g_aload_n X (i := 0) dX7_weak_53 rfl rfl ?_
          refine g_get X (q0 := 0) (v := .ref (ad 1)) 0 dX7_weak_54 gC_X7 rfl rfl (by decide) fl_X7_7 rfl rfl ?_
          refine g_sipush X dX7_weak_57 (v := 222) (by decide) ?_
          refine g_iload_n X (i := 1) dX7_weak_60 rfl rfl ?_
          refine g_iadd X dX7_weak_61 ?_
          refine g_iload_n X (i := 2) dX7_weak_62 rfl rfl ?_
          obtain ⟨hb16, hf⟩ := hfg hf
          refine g_iast X (q0 := 1) (f := o13.2.2 0) dX7_weak_63 rfl hb16 (awM_0 ad cI _ _ _) ?_
          refine g_iload_n X (i := 3) dX7_weak_64 rfl rfl ?_
          exact g_iret X hr dX7_weak_65 hf
    · refine g_aload_n X (i := 0) dX7_weak_12 rfl rfl ?_
      refine g_iload_n X (i := 2) dX7_weak_13 rfl rfl ?_
      obtain ⟨o17, h18, hf⟩ := hfb hf
      refine g_Vi X (q0 := 0) (As := [.int x2]) (rest := []) (c_X7_isObject h18) dX7_weak_14 ml_X7_87 yv_X7_isObject rfl rfl rfl rfl ⟨Nat.le_of_ble_eq_true rfl, Nat.le_of_ble_eq_true rfl⟩ ⟨rfl, rfl⟩ (Nat.le_of_ble_eq_true rfl) ⟨Nat.le_of_ble_eq_true rfl, Nat.le_of_ble_eq_true rfl⟩ ?_
      refine g_if_ne X dX7_weak_17 (tgt := 23) (by decide) hf (fun c19 hf => ?_) (fun c19 hf => ?_)
      · refine g_bipush X dX7_weak_20 (v := (-11)) (by decide) ?_
        exact g_iret X hr dX7_weak_22 hf
      · refine g_iload_n X (i := 2) dX7_weak_23 rfl rfl ?_
        refine g_if_lt X dX7_weak_24 (tgt := 38) (by decide) hf (fun c20 hf => ?_) (fun c20 hf => ?_)
        · refine g_aload_n X (i := 0) dX7_weak_38 rfl rfl ?_
          obtain ⟨o21, h22, hf⟩ := hfb hf
          refine g_Vv X (q0 := 0) (As := []) (rest := []) (c_X7_changes h22) dX7_weak_39 ml_X7_81 yv_X7_changes rfl rfl rfl rfl ⟨Nat.le_of_ble_eq_true rfl, Nat.le_of_ble_eq_true rfl⟩ ⟨rfl, rfl⟩ (Nat.le_of_ble_eq_true rfl) ⟨Nat.le_of_ble_eq_true rfl, Nat.le_of_ble_eq_true rfl⟩ ?_
          refine g_aload_n X (i := 0) dX7_weak_42 rfl rfl ?_
          refine g_get X (q0 := 0) (v := .ref (ad 1)) 0 dX7_weak_43 gC_X7 rfl rfl (by decide) fl_X7_7 rfl rfl ?_
          refine g_sipush X dX7_weak_46 (v := 222) (by decide) ?_
          refine g_iload_n X (i := 1) dX7_weak_49 rfl rfl ?_
          refine g_iadd X dX7_weak_50 ?_
          obtain ⟨hb23, hf⟩ := hfg hf
          refine g_iald X (q0 := 1) (f := o21.2.2 0) dX7_weak_51 rfl hb23 ?_
          refine g_istore_n X (i := 3) dX7_weak_52 rfl (by decide) rfl ?_
          refine g_aload_n X (i := 0) dX7_weak_53 rfl rfl ?_
          refine g_get X (q0 := 0) (v := .ref (ad 1)) 0 dX7_weak_54 gC_X7 rfl rfl (by decide) fl_X7_7 rfl rfl ?_
          refine g_sipush X dX7_weak_57 (v := 222) (by decide) ?_
          refine g_iload_n X (i := 1) dX7_weak_60 rfl rfl ?_
          refine g_iadd X dX7_weak_61 ?_
          refine g_iload_n X (i := 2) dX7_weak_62 rfl rfl ?_
          obtain ⟨hb24, hf⟩ := hfg hf
          refine g_iast X (q0 := 1) (f := o21.2.2 0) dX7_weak_63 rfl hb24 (awM_0 ad cI _ _ _) ?_
          refine g_iload_n X (i := 3) dX7_weak_64 rfl rfl ?_
          exact g_iret X hr dX7_weak_65 hf
        · refine g_aload_n X (i := 0) dX7_weak_27 rfl rfl ?_
          refine g_iload_n X (i := 2) dX7_weak_28 rfl rfl ?_
          obtain ⟨o25, h26, hf⟩ := hfb hf
          refine g_Vi X (q0 := 0) (As := [.int x2]) (rest := []) (c_X7_isReached h26) dX7_weak_29 ml_X7_90 yv_X7_isReached rfl rfl rfl rfl ⟨Nat.le_of_ble_eq_true rfl, Nat.le_of_ble_eq_true rfl⟩ ⟨rfl, rfl⟩ (Nat.le_of_ble_eq_true rfl) ⟨Nat.le_of_ble_eq_true rfl, Nat.le_of_ble_eq_true rfl⟩ ?_
          refine g_if_ne X dX7_weak_32 (tgt := 38) (by decide) hf (fun c27 hf => ?_) (fun c27 hf => ?_)
          · refine g_bipush X dX7_weak_35 (v := (-12)) (by decide) ?_
            exact g_iret X hr dX7_weak_37 hf
          · refine g_aload_n X (i := 0) dX7_weak_38 rfl rfl ?_
            obtain ⟨o28, h29, hf⟩ := hfb hf
            refine g_Vv X (q0 := 0) (As := []) (rest := []) (c_X7_changes h29) dX7_weak_39 ml_X7_81 yv_X7_changes rfl rfl rfl rfl ⟨Nat.le_of_ble_eq_true rfl, Nat.le_of_ble_eq_true rfl⟩ ⟨rfl, rfl⟩ (Nat.le_of_ble_eq_true rfl) ⟨Nat.le_of_ble_eq_true rfl, Nat.le_of_ble_eq_true rfl⟩ ?_
            refine g_aload_n X (i := 0) dX7_weak_42 rfl rfl ?_
            refine g_get X (q0 := 0) (v := .ref (ad 1)) 0 dX7_weak_43 gC_X7 rfl rfl (by decide) fl_X7_7 rfl rfl ?_
            refine g_sipush X dX7_weak_46 (v := 222) (by decide) ?_
            refine g_iload_n X (i := 1) dX7_weak_49 rfl rfl ?_
            refine g_iadd X dX7_weak_50 ?_
            obtain ⟨hb30, hf⟩ := hfg hf
            refine g_iald X (q0 := 1) (f := o28.2.2 0) dX7_weak_51 rfl hb30 ?_
            refine g_istore_n X (i := 3) dX7_weak_52 rfl (by decide) rfl ?_
            refine g_aload_n X (i := 0) dX7_weak_53 rfl rfl ?_
            refine g_get X (q0 := 0) (v := .ref (ad 1)) 0 dX7_weak_54 gC_X7 rfl rfl (by decide) fl_X7_7 rfl rfl ?_
            refine g_sipush X dX7_weak_57 (v := 222) (by decide) ?_
            refine g_iload_n X (i := 1) dX7_weak_60 rfl rfl ?_
            refine g_iadd X dX7_weak_61 ?_
            refine g_iload_n X (i := 2) dX7_weak_62 rfl rfl ?_
            obtain ⟨hb31, hf⟩ := hfg hf
            refine g_iast X (q0 := 1) (f := o28.2.2 0) dX7_weak_63 rfl hb31 (awM_0 ad cI _ _ _) ?_
            refine g_iload_n X (i := 3) dX7_weak_64 rfl rfl ?_
            exact g_iret X hr dX7_weak_65 hf
def f_X7_wouldGo (w : St) : Option (Int32 × St) := (f_X7_copies_14 w).bind fun o1 => (f_X7_those 0 1 o1.2).bind fun o3 => (f_X7_doesAll o3.2).bind fun o5 => (f_X7_those 0 1 o5.2).bind fun o7 => (f_X7_copies_41 o7.2).bind fun o9 => (if o5.1 < 0 then some ((-14), o9.2) else some (o3.1 &&& (o7.1 ^^^ (-1)), o9.2))
set_option maxRecDepth 100000 in
set_option maxHeartbeats 4000000 in
theorem c_X7_wouldGo {l : Launch} {D : va_G} {cI : ClassId × ClassId} {A : Nat → Prop} {ad : Nat → Nat} {w : St} {o : Int32 × St} (hf : f_X7_wouldGo w = some o) : CTi l D cI A yX7_wouldGo cX7_wouldGo 4 (some .int) rm_X7_wouldGo [.ref (ad 0)] ((wM ad cI) w) o.1 ((wM ad cI) o.2)   := by
  refine CTi.of (by decide +kernel) rfl (Nat.le_of_ble_eq_true rfl) ?_
  intro p e s m args below meth c X hr
  have X : gX p s m args meth c cX7_wouldGo 4 RX7 D cI := X
  show G _ _ _ _ _ _ _ _ _ _ _ _ _ _ _ _ _ 0 [some (.ref (ad 0)), none, none, none] [] w
  unfold f_X7_wouldGo at hf
  refine g_aload_n X (i := 0) dX7_wouldGo_0 rfl rfl ?_
  refine g_get X (q0 := 0) (v := .ref (ad 1)) 0 dX7_wouldGo_1 gC_X7 rfl rfl (by decide) fl_X7_7 rfl rfl ?_
  refine g_aload_n X (i := 0) dX7_wouldGo_4 rfl rfl ?_
  refine g_get X (q0 := 0) (v := .ref (ad 4)) 3 dX7_wouldGo_5 gC_X7 rfl rfl (by decide) fl_X7_19 rfl rfl ?_
  obtain ⟨o1, h2, hf⟩ := hfb hf
  refine g_Sv X (As := [.ref (ad 1), .ref (ad 4)]) (rest := []) (c_X7_copies_14 h2) dX7_wouldGo_8 ml_X7_138 yv_X7_copies rfl rfl ⟨Nat.le_of_ble_eq_true rfl, Nat.le_of_ble_eq_true rfl⟩ ⟨rfl, rfl⟩ (Nat.le_of_ble_eq_true rfl) ⟨Nat.le_of_ble_eq_true rfl, Nat.le_of_ble_eq_true rfl⟩ ?_
  refine g_aload_n X (i := 0) dX7_wouldGo_11 rfl rfl ?_
  refine g_iconst X dX7_wouldGo_12 (v := 0) (by decide) ?_
  refine g_iconst X dX7_wouldGo_13 (v := 1) (by decide) ?_
  obtain ⟨o3, h4, hf⟩ := hfb hf
  refine g_Vi X (q0 := 0) (As := [.int 0, .int 1]) (rest := []) (c_X7_those h4) dX7_wouldGo_14 ml_X7_126 yv_X7_those rfl rfl rfl rfl ⟨Nat.le_of_ble_eq_true rfl, Nat.le_of_ble_eq_true rfl⟩ ⟨rfl, rfl⟩ (Nat.le_of_ble_eq_true rfl) ⟨Nat.le_of_ble_eq_true rfl, Nat.le_of_ble_eq_true rfl⟩ ?_
  refine g_istore_n X (i := 1) dX7_wouldGo_17 rfl (by decide) rfl ?_
  refine g_aload_n X (i := 0) dX7_wouldGo_18 rfl rfl ?_
  obtain ⟨o5, h6, hf⟩ := hfb hf
  refine g_Vi X (q0 := 0) (As := []) (rest := []) (c_X7_doesAll h6) dX7_wouldGo_19 ml_X7_120 yv_X7_doesAll rfl rfl rfl rfl ⟨Nat.le_of_ble_eq_true rfl, Nat.le_of_ble_eq_true rfl⟩ ⟨rfl, rfl⟩ (Nat.le_of_ble_eq_true rfl) ⟨Nat.le_of_ble_eq_true rfl, Nat.le_of_ble_eq_true rfl⟩ ?_
  refine g_istore_n X (i := 2) dX7_wouldGo_22 rfl (by decide) rfl ?_
  refine g_iload_n X (i := 1) dX7_wouldGo_23 rfl rfl ?_
  refine g_aload_n X (i := 0) dX7_wouldGo_24 rfl rfl ?_
  refine g_iconst X dX7_wouldGo_25 (v := 0) (by decide) ?_
  refine g_iconst X dX7_wouldGo_26 (v := 1) (by decide) ?_
  obtain ⟨o7, h8, hf⟩ := hfb hf
  refine g_Vi X (q0 := 0) (As := [.int 0, .int 1]) (rest := [.int o3.1]) (c_X7_those h8) dX7_wouldGo_27 ml_X7_126 yv_X7_those rfl rfl rfl rfl ⟨Nat.le_of_ble_eq_true rfl, Nat.le_of_ble_eq_true rfl⟩ ⟨rfl, rfl⟩ (Nat.le_of_ble_eq_true rfl) ⟨Nat.le_of_ble_eq_true rfl, Nat.le_of_ble_eq_true rfl⟩ ?_
  refine g_iconst X dX7_wouldGo_30 (v := (-1)) (by decide) ?_
  refine g_ixor X dX7_wouldGo_31 ?_
  refine g_iand X dX7_wouldGo_32 ?_
  refine g_istore_n X (i := 3) dX7_wouldGo_33 rfl (by decide) rfl ?_
  refine g_aload_n X (i := 0) dX7_wouldGo_34 rfl rfl ?_
  refine g_get X (q0 := 0) (v := .ref (ad 4)) 3 dX7_wouldGo_35 gC_X7 rfl rfl (by decide) fl_X7_19 rfl rfl ?_
  refine g_aload_n X (i := 0) dX7_wouldGo_38 rfl rfl ?_
  refine g_get X (q0 := 0) (v := .ref (ad 1)) 0 dX7_wouldGo_39 gC_X7 rfl rfl (by decide) fl_X7_7 rfl rfl ?_
  obtain ⟨o9, h10, hf⟩ := hfb hf
  refine g_Sv X (As := [.ref (ad 4), .ref (ad 1)]) (rest := []) (c_X7_copies_41 h10) dX7_wouldGo_42 ml_X7_138 yv_X7_copies rfl rfl ⟨Nat.le_of_ble_eq_true rfl, Nat.le_of_ble_eq_true rfl⟩ ⟨rfl, rfl⟩ (Nat.le_of_ble_eq_true rfl) ⟨Nat.le_of_ble_eq_true rfl, Nat.le_of_ble_eq_true rfl⟩ ?_
  refine g_iload_n X (i := 2) dX7_wouldGo_45 rfl rfl ?_
  refine g_if_ge X dX7_wouldGo_46 (tgt := 54) (by decide) hf (fun c11 hf => ?_) (fun c11 hf => ?_)
  · refine g_bipush X dX7_wouldGo_49 (v := (-14)) (by decide) ?_
    refine g_goto X dX7_wouldGo_51 (tgt := 55) (by decide) ?_
    exact g_iret X hr dX7_wouldGo_55 hf
  · refine g_iload_n X (i := 3) dX7_wouldGo_54 rfl rfl ?_
    exact g_iret X hr dX7_wouldGo_55 hf
