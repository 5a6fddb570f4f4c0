def f_L_at (x1 : Int32) (w : St) : Option (Int32 × St) := if ib (x1 / 3) 24 then some ((((w.2 1 (x1 / 3).toNatClampNeg) >>> ((5 * (x1 - x1 / 3 * 3)) &&& 31)) &&& 31) - 1, w) else none
set_option maxRecDepth 100000 in
set_option maxHeartbeats 4000000 in
theorem c_L_at {l : Launch} {D : va_G} {cI : ClassId × ClassId} {A : Nat → Prop} {ad : Nat → Nat} {x1 : Int32} {w : St} {o : Int32 × St} (hf : f_L_at x1 w = some o) : CTi l D cI A yL_at cL_at 2 (some .int) rm_L_at [.ref (ad 1), .int x1] ((wR ad cI) w) o.1 ((wR ad cI) o.2)   := by
  refine CTi.of (by decide +kernel) rfl (Nat.le_of_ble_eq_true rfl) ?_
  intro p e s m args below meth c X hr
  have X : gX p s m args meth c cL_at 2 RL D cI := X
  show G _ _ _ _ _ _ _ _ _ _ _ _ _ _ _ _ _ 0 [some (.ref (ad 1)), some (.int x1)] [] w
  unfold f_L_at at hf
  refine g_aload_n X (i := 0) dL_at_0 rfl rfl ?_
  refine g_iload_n X (i := 1) dL_at_1 rfl rfl ?_
  refine g_iconst X dL_at_2 (v := 3) (by decide) ?_
  refine g_idiv X dL_at_3 (by decide) ?_
  obtain ⟨hb1, hf⟩ := hfg hf
  refine g_iald X (q0 := 1) (f := w.2 1) dL_at_4 rfl hb1 ?_
  refine g_iconst X dL_at_5 (v := 5) (by decide) ?_
  refine g_iload_n X (i := 1) dL_at_6 rfl rfl ?_
  refine g_iconst X dL_at_7 (v := 3) (by decide) ?_
  refine g_irem X dL_at_8 (by decide) ?_
  refine g_imul X dL_at_9 ?_
  refine g_ishr X dL_at_10 ?_
  refine g_bipush X dL_at_11 (v := 31) (by decide) ?_
  refine g_iand X dL_at_13 ?_
  refine g_iconst X dL_at_14 (v := 1) (by decide) ?_
  refine g_isub X dL_at_15 ?_
  exact g_iret X hr dL_at_16 hf
def f_L_put (x1 x2 : Int32) (w : St) : Option (Int32 × St) := if ib (x1 / 3) 24 then (f_L_at x1 w).bind fun o2 => if ib (x1 / 3) 24 then some (0, sA o2.2 1 (x1 / 3) ((w.2 1 (x1 / 3).toNatClampNeg) + ((x2 - o2.1) <<< ((5 * (x1 - x1 / 3 * 3)) &&& 31)))) else none else none
set_option maxRecDepth 100000 in
set_option maxHeartbeats 4000000 in
theorem c_L_put {l : Launch} {D : va_G} {cI : ClassId × ClassId} {A : Nat → Prop} {ad : Nat → Nat} {x1 x2 : Int32} {w : St} {o : Int32 × St} (hf : f_L_put x1 x2 w = some o) : CTv l D cI A yL_put cL_put 3 (none) rm_L_put [.ref (ad 1), .int x1, .int x2] ((wR ad cI) w) ((wR ad cI) o.2)   := by
  refine CTv.of (by decide +kernel) rfl (Nat.le_of_ble_eq_true rfl) ?_
  intro p e s m args below meth c X hr
  have X : gX p s m args meth c cL_put 3 RL D cI := X
  show G _ _ _ _ _ _ _ _ _ _ _ _ _ _ _ _ _ 0 [some (.ref (ad 1)), some (.int x1), some (.int x2)] [] w
  unfold f_L_put at hf
  refine g_aload_n X (i := 0) dL_put_0 rfl rfl ?_
  refine g_iload_n X (i := 1) dL_put_1 rfl rfl ?_
  refine g_iconst X dL_put_2 (v := 3) (by decide) ?_
  refine g_idiv X dL_put_3 (by decide) ?_
  refine g_dup2 X dL_put_4 rfl rfl ?_
  obtain ⟨hb1, hf⟩ := hfg hf
  refine g_iald X (q0 := 1) (f := w.2 1) dL_put_5 rfl hb1 ?_
  refine g_iload_n X (i := 2) dL_put_6 rfl rfl ?_
  refine g_aload_n X (i := 0) dL_put_7 rfl rfl ?_
  refine g_iload_n X (i := 1) dL_put_8 rfl rfl ?_
  obtain ⟨o2, h3, hf⟩ := hfb hf
  refine g_Si X (As := [.ref (ad 1), .int x1]) (rest := [.int x2, .int (w.2 1 (x1 / 3).toNatClampNeg), .int (x1 / 3), .ref (ad 1)]) (c_L_at h3) dL_put_9 ml_L_9 yv_L_at rfl rfl ⟨Nat.le_of_ble_eq_true rfl, Nat.le_of_ble_eq_true rfl⟩ ⟨rfl, rfl⟩ (Nat.le_of_ble_eq_true rfl) ⟨Nat.le_of_ble_eq_true rfl, Nat.le_of_ble_eq_true rfl⟩ ?_
  refine g_isub X dL_put_12 ?_
  refine g_iconst X dL_put_13 (v := 5) (by decide) ?_
  refine g_iload_n X (i := 1) dL_put_14 rfl rfl ?_
  refine g_iconst X dL_put_15 (v := 3) (by decide) ?_
  refine g_irem X dL_put_16 (by decide) ?_
  refine g_imul X dL_put_17 ?_
  refine g_ishl X dL_put_18 ?_
  refine g_iadd X dL_put_19 ?_
  obtain ⟨hb4, hf⟩ := hfg hf
  refine g_iast X (q0 := 1) (f := o2.2.2 1) dL_put_20 rfl hb4 (awR_1 ad cI _ _ _) ?_
  exact g_vret X hr dL_put_21 hf
def f_L_spread_L15 : Nat → Int32 → Int32 → Int32 → Int32 → St → Option (Int32 × St)
  | 0, _, _, _, _, _ => none
  | n + 1, x2, x3, x4, x5, w => (if x5 < 72 then (f_L_at x5 w).bind fun o3 => (if ((x3 >>> ((x5 / 3) &&& 31)) &&& 1) = 1 then (if o3.1 < 0 then some ((0 : Int32)) else (if o3.1 = x2 then some ((0 : Int32)) else some (1 <<< (o3.1 &&& 31)))) else some ((0 : Int32))).bind fun o6 => f_L_spread_L15 n x2 (x3 ||| o6) x4 (x5 + 1) o3.2 else some (x3, w))
def f_L_spread_L5 : Nat → Int32 → Int32 → Int32 → St → Option (Int32 × St)
  | 0, _, _, _, _ => none
  | n + 1, x2, x3, x4, w => (if x4 < 24 then (f_L_spread_L15 BIG x2 x3 x4 0 w).bind fun o11 => f_L_spread_L5 n x2 o11.1 (x4 + 1) o11.2 else some (x3, w))
def f_L_spread (x1 x2 : Int32) (w : St) : Option (Int32 × St) := (f_L_spread_L5 BIG x2 x1 0 w).bind fun o13 => some (o13.1, o13.2)
set_option maxRecDepth 100000 in
set_option maxHeartbeats 4000000 in
theorem gl_L_spread_L15 {p : Program} {l : Launch} {e : Env} {s : State} {m : MethodId} {args : Array Value} {below : List Frame} {meth : Method} {c : Code} {D : va_G} {A : Nat → Prop} {cI : ClassId × ClassId} {ad : Nat → Nat} {Q : State → Prop} {o : Int32 × St} (X : gX p s m args meth c cL_spread 7 RL D cI) (n : Nat) : ∀ {x2 x3 x4 x5 : Int32} {w : St}, f_L_spread_L15 n x2 x3 x4 x5 w = some o → G p l e rm_L_spread s m args below meth c D A 7 Q (wR ad cI) 0 0 70 [some (.ref (ad 1)), none, some (.int x2), some (.int o.1), some (.int x4), none, none] [] o.2 → G p l e rm_L_spread s m args below meth c D A 7 Q (wR ad cI) 0 0 15 [some (.ref (ad 1)), none, some (.int x2), some (.int x3), some (.int x4), some (.int x5), none] [] w := by
  induction n with
  | zero => intro x2 x3 x4 x5 w hf; cases hf
  | succ n ih =>
    intro x2 x3 x4 x5 w hf k
    rw [f_L_spread_L15] at hf
    refine g_iload X dL_spread_15 rfl ?_
    refine g_bipush X dL_spread_17 (v := 72) (by decide) ?_
    refine g_icmp_ge X dL_spread_19 (tgt := 70) (by decide) hf (fun c2 hf => ?_) (fun c2 hf => ?_)
    · refine g_aload_n X (i := 0) dL_spread_22 rfl rfl ?_
      refine g_iload X dL_spread_23 rfl ?_
      obtain ⟨o3, h4, hf⟩ := hfb hf
      refine g_Si X (As := [.ref (ad 1), .int x5]) (rest := []) (c_L_at h4) dL_spread_25 ml_L_9 yv_L_at rfl rfl ⟨Nat.le_of_ble_eq_true rfl, Nat.le_of_ble_eq_true rfl⟩ ⟨rfl, rfl⟩ (Nat.le_of_ble_eq_true rfl) ⟨Nat.le_of_ble_eq_true rfl, Nat.le_of_ble_eq_true rfl⟩ ?_
      refine g_istore X dL_spread_28 (by decide) rfl ?_
      refine g_iload_n X (i := 3) dL_spread_30 rfl rfl ?_
      refine g_iload_n X (i := 3) dL_spread_31 rfl rfl ?_
      refine g_iload X dL_spread_32 rfl ?_
      refine g_iconst X dL_spread_34 (v := 3) (by decide) ?_
      refine g_idiv X dL_spread_35 (by decide) ?_
      refine g_ishr X dL_spread_36 ?_
      refine g_iconst X dL_spread_37 (v := 1) (by decide) ?_
      refine g_iand X dL_spread_38 ?_
      refine g_iconst X dL_spread_39 (v := 1) (by decide) ?_
      obtain ⟨o6, h7, hf⟩ := hfb hf
      refine g_jn (M := 62) (lo2 := [some (.ref (ad 1)), none, some (.int x2), none, some (.int x4), some (.int x5), none]) (st2 := [.int o6, .int x3]) (w2 := o3.2) ?_ (fun K8 => ?_)
      · refine g_ior X dL_spread_62 ?_
        refine g_istore_n X (i := 3) dL_spread_63 rfl (by decide) rfl ?_
        refine g_iinc X (i := 5) (v := 1) dL_spread_64 rfl (by decide) (by decide) rfl ?_
        refine g_goto X dL_spread_67 (tgt := 15) (by decide) ?_
        exact ih hf k
      · have hf := h7
        refine g_icmp_ne X dL_spread_40 (tgt := 61) (by decide) hf (fun c5 hf => ?_) (fun c5 hf => ?_)
        · refine g_iload X dL_spread_43 rfl ?_
          refine g_if_lt X dL_spread_45 (tgt := 61) (by decide) hf (fun c9 hf => ?_) (fun c9 hf => ?_)
          · refine g_iconst X dL_spread_61 (v := 0) (by decide) ?_
            obtain rfl := Option.some.inj hf
            refine g_sub (losub (lo' := [some (.ref (ad 1)), none, some (.int x2), none, some (.int x4), some (.int x5), none]) ⟨rfl, rfl, rfl, rfl, trivial⟩) ?_
            exact K8
          · refine g_iload X dL_spread_48 rfl ?_
            refine g_iload_n X (i := 2) dL_spread_50 rfl rfl ?_
            refine g_icmp_eq X dL_spread_51 (tgt := 61) (by decide) hf (fun c10 hf => ?_) (fun c10 hf => ?_)
            · refine g_iconst X dL_spread_61 (v := 0) (by decide) ?_
              obtain rfl := Option.some.inj hf
              refine g_sub (losub (lo' := [some (.ref (ad 1)), none, some (.int x2), none, some (.int x4), some (.int x5), none]) ⟨rfl, rfl, rfl, rfl, trivial⟩) ?_
              exact K8
            · refine g_iconst X dL_spread_54 (v := 1) (by decide) ?_
              refine g_iload X dL_spread_55 rfl ?_
              refine g_ishl X dL_spread_57 ?_
              refine g_goto X dL_spread_58 (tgt := 62) (by decide) ?_
              obtain rfl := Option.some.inj hf
              refine g_sub (losub (lo' := [some (.ref (ad 1)), none, some (.int x2), none, some (.int x4), some (.int x5), none]) ⟨rfl, rfl, rfl, rfl, trivial⟩) ?_
              exact K8
        · refine g_iconst X dL_spread_61 (v := 0) (by decide) ?_
          obtain rfl := Option.some.inj hf
          refine g_sub (losub (lo' := [some (.ref (ad 1)), none, some (.int x2), none, some (.int x4), some (.int x5), none]) ⟨rfl, rfl, rfl, rfl, trivial⟩) ?_
          exact K8
    · obtain rfl := Option.some.inj hf
      refine g_sub (losub (lo' := [some (.ref (ad 1)), none, some (.int x2), some (.int x3), some (.int x4), none, none]) ⟨rfl, rfl, rfl, rfl, trivial⟩) ?_
      exact k
set_option maxRecDepth 100000 in
set_option maxHeartbeats 4000000 in
theorem gl_L_spread_L5 {p : Program} {l : Launch} {e : Env} {s : State} {m : MethodId} {args : Array Value} {below : List Frame} {meth : Method} {c : Code} {D : va_G} {A : Nat → Prop} {cI : ClassId × ClassId} {ad : Nat → Nat} {Q : State → Prop} {o : Int32 × St} (X : gX p s m args meth c cL_spread 7 RL D cI) (n : Nat) : ∀ {x2 x3 x4 : Int32} {w : St}, f_L_spread_L5 n x2 x3 x4 w = some o → G p l e rm_L_spread s m args below meth c D A 7 Q (wR ad cI) 0 0 76 [none, none, none, some (.int o.1), none, none, none] [] o.2 → G p l e rm_L_spread s m args below meth c D A 7 Q (wR ad cI) 0 0 5 [some (.ref (ad 1)), none, some (.int x2), some (.int x3), some (.int x4), none, none] [] w := by
  induction n with
  | zero => intro x2 x3 x4 w hf; cases hf
  | succ n ih =>
    intro x2 x3 x4 w hf k
    rw [f_L_spread_L5] at hf
    refine g_iload X dL_spread_5 rfl ?_
    refine g_bipush X dL_spread_7 (v := 24) (by decide) ?_
    refine g_icmp_ge X dL_spread_9 (tgt := 76) (by decide) hf (fun c1 hf => ?_) (fun c1 hf => ?_)
    · refine g_iconst X dL_spread_12 (v := 0) (by decide) ?_
      refine g_istore X dL_spread_13 (by decide) rfl ?_
      obtain ⟨o11, h12, hf⟩ := hfb hf
      refine gl_L_spread_L15 X BIG h12 ?_
      refine g_iinc X (i := 4) (v := 1) dL_spread_70 rfl (by decide) (by decide) rfl ?_
      refine g_goto X dL_spread_73 (tgt := 5) (by decide) ?_
      exact ih hf k
    · obtain rfl := Option.some.inj hf
      refine g_sub (losub (lo' := [none, none, none, some (.int x3), none, none, none]) ⟨rfl, trivial⟩) ?_
      exact k
set_option maxRecDepth 100000 in
set_option maxHeartbeats 4000000 in
theorem c_L_spread {l : Launch} {D : va_G} {cI : ClassId × ClassId} {A : Nat → Prop} {ad : Nat → Nat} {x1 x2 : Int32} {w : St} {o : Int32 × St} (hf : f_L_spread x1 x2 w = some o) : CTi l D cI A yL_spread cL_spread 7 (some .int) rm_L_spread [.ref (ad 1), .int x1, .int x2] ((wR ad cI) w) o.1 ((wR ad cI) o.2)   := by
  refine CTi.of (by decide +kernel) rfl (Nat.le_of_ble_eq_true rfl) ?_
  intro p e s m args below meth c X hr
  have X : gX p s m args meth c cL_spread 7 RL D cI := X
  show G _ _ _ _ _ _ _ _ _ _ _ _ _ _ _ _ _ 0 [some (.ref (ad 1)), some (.int x1), some (.int x2), none, none, none, none] [] w
  unfold f_L_spread at hf
  refine g_iload_n X (i := 1) dL_spread_0 rfl rfl ?_
  refine g_istore_n X (i := 3) dL_spread_1 rfl (by decide) rfl ?_
  refine g_iconst X dL_spread_2 (v := 0) (by decide) ?_
  refine g_istore X dL_spread_3 (by decide) rfl ?_
  refine g_sub (losub (lo' := [some (.ref (ad 1)), none, some (.int x2), some (.int x1), some (.int 0), none, none]) ⟨rfl, rfl, rfl, rfl, trivial⟩) ?_
  obtain ⟨o13, h14, hf⟩ := hfb hf
  refine gl_L_spread_L5 X BIG h14 ?_
  refine g_iload_n X (i := 3) dL_spread_76 rfl rfl ?_
  exact g_iret X hr dL_spread_77 hf
def f_L_rooted_L5 : Nat → Int32 → Int32 → Int32 → St → Option (Int32 × St)
  | 0, _, _, _, _ => none
  | n + 1, x2, x3, x4, w => (if x4 < 4 then if ib x4 8 then (if (w.2 7 x4.toNatClampNeg) < 0 then some ((0 : Int32)) else if ib x4 8 then (if (w.2 7 x4.toNatClampNeg) = x2 then some ((0 : Int32)) else if ib x4 8 then some (1 <<< ((w.2 7 x4.toNatClampNeg) &&& 31)) else none) else none).bind fun o4 => f_L_rooted_L5 n x2 (x3 ||| o4) (x4 + 1) w else none else some (x3, w))
def f_L_rooted (x1 : Int32) (w : St) : Option (Int32 × St) := (f_L_rooted_L5 BIG x1 0 0 w).bind fun o10 => (f_L_spread o10.1 x1 o10.2).bind fun o12 => some (o12.1, o12.2)
set_option maxRecDepth 100000 in
set_option maxHeartbeats 4000000 in
theorem gl_L_rooted_L5 {p : Program} {l : Launch} {e : Env} {s : State} {m : MethodId} {args : Array Value} {below : List Frame} {meth : Method} {c : Code} {D : va_G} {A : Nat → Prop} {cI : ClassId × ClassId} {ad : Nat → Nat} {Q : State → Prop} {o : Int32 × St} (X : gX p s m args meth c cL_rooted 5 RL D cI) (n : Nat) : ∀ {x2 x3 x4 : Int32} {w : St}, f_L_rooted_L5 n x2 x3 x4 w = some o → G p l e rm_L_rooted s m args below meth c D A 5 Q (wR ad cI) 0 0 45 [some (.ref (ad 1)), none, some (.int x2), some (.int o.1), none] [] o.2 → G p l e rm_L_rooted s m args below meth c D A 5 Q (wR ad cI) 0 0 5 [some (.ref (ad 1)), some (.ref (ad 7)), some (.int x2), some (.int x3), some (.int x4)] [] w := by
  induction n with
  | zero => intro x2 x3 x4 w hf; cases hf
  | succ n ih =>
    intro x2 x3 x4 w hf k
    rw [f_L_rooted_L5] at hf
    refine g_iload X dL_rooted_5 rfl ?_
    refine g_iconst X dL_rooted_7 (v := 4) (by decide) ?_
    refine g_icmp_ge X dL_rooted_8 (tgt := 45) (by decide) hf (fun c1 hf => ?_) (fun c1 hf => ?_)
    · refine g_iload_n X (i := 3) dL_rooted_11 rfl rfl ?_
      refine g_aload_n X (i := 1) dL_rooted_12 rfl rfl ?_
      refine g_iload X dL_rooted_13 rfl ?_
      obtain ⟨hb2, hf⟩ := hfg hf
      refine g_iald X (q0 := 7) (f := w.2 7) dL_rooted_15 rfl hb2 ?_
      obtain ⟨o4, h5, hf⟩ := hfb hf
      refine g_jn (M := 37) (lo2 := [some (.ref (ad 1)), some (.ref (ad 7)), some (.int x2), none, some (.int x4)]) (st2 := [.int o4, .int x3]) (w2 := w) ?_ (fun K6 => ?_)
      · refine g_ior X dL_rooted_37 ?_
        refine g_istore_n X (i := 3) dL_rooted_38 rfl (by decide) rfl ?_
        refine g_iinc X (i := 4) (v := 1) dL_rooted_39 rfl (by decide) (by decide) rfl ?_
        refine g_goto X dL_rooted_42 (tgt := 5) (by decide) ?_
        exact ih hf k
      · have hf := h5
        refine g_if_lt X dL_rooted_16 (tgt := 27) (by decide) hf (fun c3 hf => ?_) (fun c3 hf => ?_)
        · refine g_iconst X dL_rooted_27 (v := 0) (by decide) ?_
          refine g_goto X dL_rooted_28 (tgt := 37) (by decide) ?_
          obtain rfl := Option.some.inj hf
          refine g_sub (losub (lo' := [some (.ref (ad 1)), some (.ref (ad 7)), some (.int x2), none, some (.int x4)]) ⟨rfl, rfl, rfl, rfl, trivial⟩) ?_
          exact K6
        · refine g_aload_n X (i := 1) dL_rooted_19 rfl rfl ?_
          refine g_iload X dL_rooted_20 rfl ?_
          obtain ⟨hb7, hf⟩ := hfg hf
          refine g_iald X (q0 := 7) (f := w.2 7) dL_rooted_22 rfl hb7 ?_
          refine g_iload_n X (i := 2) dL_rooted_23 rfl rfl ?_
          refine g_icmp_ne X dL_rooted_24 (tgt := 31) (by decide) hf (fun c8 hf => ?_) (fun c8 hf => ?_)
          · refine g_iconst X dL_rooted_27 (v := 0) (by decide) ?_
            refine g_goto X dL_rooted_28 (tgt := 37) (by decide) ?_
            obtain rfl := Option.some.inj hf
            refine g_sub (losub (lo' := [some (.ref (ad 1)), some (.ref (ad 7)), some (.int x2), none, some (.int x4)]) ⟨rfl, rfl, rfl, rfl, trivial⟩) ?_
            exact K6
          · refine g_iconst X dL_rooted_31 (v := 1) (by decide) ?_
            refine g_aload_n X (i := 1) dL_rooted_32 rfl rfl ?_
            refine g_iload X dL_rooted_33 rfl ?_
            obtain ⟨hb9, hf⟩ := hfg hf
            refine g_iald X (q0 := 7) (f := w.2 7) dL_rooted_35 rfl hb9 ?_
            refine g_ishl X dL_rooted_36 ?_
            obtain rfl := Option.some.inj hf
            refine g_sub (losub (lo' := [some (.ref (ad 1)), some (.ref (ad 7)), some (.int x2), none, some (.int x4)]) ⟨rfl, rfl, rfl, rfl, trivial⟩) ?_
            exact K6
    · obtain rfl := Option.some.inj hf
      refine g_sub (losub (lo' := [some (.ref (ad 1)), none, some (.int x2), some (.int x3), none]) ⟨rfl, rfl, rfl, trivial⟩) ?_
      exact k
set_option maxRecDepth 100000 in
set_option maxHeartbeats 4000000 in
theorem c_L_rooted {l : Launch} {D : va_G} {cI : ClassId × ClassId} {A : Nat → Prop} {ad : Nat → Nat} {x1 : Int32} {w : St} {o : Int32 × St} (hf : f_L_rooted x1 w = some o) : CTi l D cI A yL_rooted cL_rooted 5 (some .int) rm_L_rooted [.ref (ad 1), .ref (ad 7), .int x1] ((wR ad cI) w) o.1 ((wR ad cI) o.2)   := by
  refine CTi.of (by decide +kernel) rfl (Nat.le_of_ble_eq_true rfl) ?_
  intro p e s m args below meth c X hr
  have X : gX p s m args meth c cL_rooted 5 RL D cI := X
  show G _ _ _ _ _ _ _ _ _ _ _ _ _ _ _ _ _ 0 [some (.ref (ad 1)), some (.ref (ad 7)), some (.int x1), none, none] [] w
  unfold f_L_rooted at hf
  refine g_iconst X dL_rooted_0 (v := 0) (by decide) ?_
  refine g_istore_n X (i := 3) dL_rooted_1 rfl (by decide) rfl ?_
  refine g_iconst X dL_rooted_2 (v := 0) (by decide) ?_
  refine g_istore X dL_rooted_3 (by decide) rfl ?_
  obtain ⟨o10, h11, hf⟩ := hfb hf
  refine gl_L_rooted_L5 X BIG h11 ?_
  refine g_aload_n X (i := 0) dL_rooted_45 rfl rfl ?_
  refine g_iload_n X (i := 3) dL_rooted_46 rfl rfl ?_
  refine g_iload_n X (i := 2) dL_rooted_47 rfl rfl ?_
  obtain ⟨o12, h13, hf⟩ := hfb hf
  refine g_Si X (As := [.ref (ad 1), .int o10.1, .int x1]) (rest := []) (c_L_spread h13) dL_rooted_48 ml_L_15 yv_L_spread rfl rfl ⟨Nat.le_of_ble_eq_true rfl, Nat.le_of_ble_eq_true rfl⟩ ⟨rfl, rfl⟩ (Nat.le_of_ble_eq_true rfl) ⟨Nat.le_of_ble_eq_true rfl, Nat.le_of_ble_eq_true rfl⟩ ?_
  exact g_iret X hr dL_rooted_51 hf
def f_L_reached_L11 : Nat → Int32 → Int32 → St → Option (Int32 × St)
  | 0, _, _, _ => none
  | n + 1, x4, x5, w => if ib 9 11 then (if x5 < (w.2 0 (9 : Int32).toNatClampNeg) then if ib x5 24 then f_L_reached_L11 n (x4 ||| (1 <<< ((w.2 5 x5.toNatClampNeg) &&& 31))) (x5 + 1) w else none else some (x4, w)) else none
def f_L_reached (w : St) : Option (Int32 × St) := (f_L_rooted (-1) w).bind fun o1 => (f_L_reached_L11 BIG o1.1 0 o1.2).bind fun o6 => (f_L_spread o6.1 (-1) o6.2).bind fun o8 => some (o8.1, o8.2)
set_option maxRecDepth 100000 in
set_option maxHeartbeats 4000000 in
theorem gl_L_reached_L11 {p : Program} {l : Launch} {e : Env} {s : State} {m : MethodId} {args : Array Value} {below : List Frame} {meth : Method} {c : Code} {D : va_G} {A : Nat → Prop} {cI : ClassId × ClassId} {ad : Nat → Nat} {Q : State → Prop} {o : Int32 × St} (X : gX p s m args meth c cL_reached 6 RL D cI) (n : Nat) : ∀ {x4 x5 : Int32} {w : St}, f_L_reached_L11 n x4 x5 w = some o → G p l e rm_L_reached s m args below meth c D A 6 Q (wR ad cI) 0 0 37 [none, some (.ref (ad 1)), none, none, some (.int o.1), none] [] o.2 → G p l e rm_L_reached s m args below meth c D A 6 Q (wR ad cI) 0 0 11 [some (.ref (ad 0)), some (.ref (ad 1)), some (.ref (ad 5)), none, some (.int x4), some (.int x5)] [] w := by
  induction n with
  | zero => intro x4 x5 w hf; cases hf
  | succ n ih =>
    intro x4 x5 w hf k
    rw [f_L_reached_L11] at hf
    refine g_iload X dL_reached_11 rfl ?_
    refine g_aload_n X (i := 0) dL_reached_13 rfl rfl ?_
    refine g_bipush X dL_reached_14 (v := 9) (by decide) ?_
    obtain ⟨hb3, hf⟩ := hfg hf
    refine g_iald X (q0 := 0) (f := w.2 0) dL_reached_16 rfl hb3 ?_
    refine g_icmp_ge X dL_reached_17 (tgt := 37) (by decide) hf (fun c4 hf => ?_) (fun c4 hf => ?_)
    · refine g_iload X dL_reached_20 rfl ?_
      refine g_iconst X dL_reached_22 (v := 1) (by decide) ?_
      refine g_aload_n X (i := 2) dL_reached_23 rfl rfl ?_
      refine g_iload X dL_reached_24 rfl ?_
      obtain ⟨hb5, hf⟩ := hfg hf
      refine g_iald X (q0 := 5) (f := w.2 5) dL_reached_26 rfl hb5 ?_
      refine g_ishl X dL_reached_27 ?_
      refine g_ior X dL_reached_28 ?_
      refine g_istore X dL_reached_29 (by decide) rfl ?_
      refine g_iinc X (i := 5) (v := 1) dL_reached_31 rfl (by decide) (by decide) rfl ?_
      refine g_goto X dL_reached_34 (tgt := 11) (by decide) ?_
      exact ih hf k
    · obtain rfl := Option.some.inj hf
      refine g_sub (losub (lo' := [none, some (.ref (ad 1)), none, none, some (.int x4), none]) ⟨rfl, rfl, trivial⟩) ?_
      exact k
set_option maxRecDepth 100000 in
set_option maxHeartbeats 4000000 in
theorem c_L_reached {l : Launch} {D : va_G} {cI : ClassId × ClassId} {A : Nat → Prop} {ad : Nat → Nat} {w : St} {o : Int32 × St} (hf : f_L_reached w = some o) : CTi l D cI A yL_reached cL_reached 6 (some .int) rm_L_reached [.ref (ad 0), .ref (ad 1), .ref (ad 5), .ref (ad 7)] ((wR ad cI) w) o.1 ((wR ad cI) o.2)   := by
  refine CTi.of (by decide +kernel) rfl (Nat.le_of_ble_eq_true rfl) ?_
  intro p e s m args below meth c X hr
  have X : gX p s m args meth c cL_reached 6 RL D cI := X
  show G _ _ _ _ _ _ _ _ _ _ _ _ _ _ _ _ _ 0 [some (.ref (ad 0)), some (.ref (ad 1)), some (.ref (ad 5)), some (.ref (ad 7)), none, none] [] w
  unfold f_L_reached at hf
  refine g_aload_n X (i := 1) dL_reached_0 rfl rfl ?_
  refine g_aload_n X (i := 3) dL_reached_1 rfl rfl ?_
  refine g_iconst X dL_reached_2 (v := (-1)) (by decide) ?_
  obtain ⟨o1, h2, hf⟩ := hfb hf
  refine g_Si X (As := [.ref (ad 1), .ref (ad 7), .int (-1)]) (rest := []) (c_L_rooted h2) dL_reached_3 ml_L_19 yv_L_rooted rfl rfl ⟨Nat.le_of_ble_eq_true rfl, Nat.le_of_ble_eq_true rfl⟩ ⟨rfl, rfl⟩ (Nat.le_of_ble_eq_true rfl) ⟨Nat.le_of_ble_eq_true rfl, Nat.le_of_ble_eq_true rfl⟩ ?_
  refine g_istore X dL_reached_6 (by decide) rfl ?_
  refine g_iconst X dL_reached_8 (v := 0) (by decide) ?_
  refine g_istore X dL_reached_9 (by decide) rfl ?_
  refine g_sub (losub (lo' := [some (.ref (ad 0)), some (.ref (ad 1)), some (.ref (ad 5)), none, some (.int o1.1), some (.int 0)]) ⟨rfl, rfl, rfl, rfl, rfl, trivial⟩) ?_
  obtain ⟨o6, h7, hf⟩ := hfb hf
  refine gl_L_reached_L11 X BIG h7 ?_
  refine g_aload_n X (i := 1) dL_reached_37 rfl rfl ?_
  refine g_iload X dL_reached_38 rfl ?_
  refine g_iconst X dL_reached_40 (v := (-1)) (by decide) ?_
  obtain ⟨o8, h9, hf⟩ := hfb hf
  refine g_Si X (As := [.ref (ad 1), .int o6.1, .int (-1)]) (rest := []) (c_L_spread h9) dL_reached_41 ml_L_15 yv_L_spread rfl rfl ⟨Nat.le_of_ble_eq_true rfl, Nat.le_of_ble_eq_true rfl⟩ ⟨rfl, rfl⟩ (Nat.le_of_ble_eq_true rfl) ⟨Nat.le_of_ble_eq_true rfl, Nat.le_of_ble_eq_true rfl⟩ ?_
  exact g_iret X hr dL_reached_44 hf
def f_L_shade (x1 : Int32) (w : St) : Option (Int32 × St) := (if x1 < 0 then some (0, w) else if ib x1 24 then (if (w.2 2 x1.toNatClampNeg) = 0 then if ib x1 24 then if ib 10 11 then if ib (w.2 0 (10 : Int32).toNatClampNeg) 24 then if ib 10 11 then if ib 10 11 then some (0, sA (sA (sA w 2 x1 1) 6 (w.2 0 (10 : Int32).toNatClampNeg) x1) 0 10 ((w.2 0 (10 : Int32).toNatClampNeg) + 1)) else none else none else none else none else none else some (0, w)) else none)
set_option maxRecDepth 100000 in
set_option maxHeartbeats 4000000 in
theorem c_L_shade {l : Launch} {D : va_G} {cI : ClassId × ClassId} {A : Nat → Prop} {ad : Nat → Nat} {x1 : Int32} {w : St} {o : Int32 × St} (hf : f_L_shade x1 w = some o) : CTv l D cI A yL_shade cL_shade 4 (none) rm_L_shade [.ref (ad 0), .ref (ad 2), .ref (ad 6), .int x1] ((wR ad cI) w) ((wR ad cI) o.2)   := by
  refine CTv.of (by decide +kernel) rfl (Nat.le_of_ble_eq_true rfl) ?_
  intro p e s m args below meth c X hr
  have X : gX p s m args meth c cL_shade 4 RL D cI := X
  show G _ _ _ _ _ _ _ _ _ _ _ _ _ _ _ _ _ 0 [some (.ref (ad 0)), some (.ref (ad 2)), some (.ref (ad 6)), some (.int x1)] [] w
  unfold f_L_shade at hf
  refine g_iload_n X (i := 3) dL_shade_0 rfl rfl ?_
  refine g_if_lt X dL_shade_1 (tgt := 29) (by decide) hf (fun c1 hf => ?_) (fun c1 hf => ?_)
  · exact g_vret X hr dL_shade_29 hf
  · refine g_aload_n X (i := 1) dL_shade_4 rfl rfl ?_
    refine g_iload_n X (i := 3) dL_shade_5 rfl rfl ?_
    obtain ⟨hb2, hf⟩ := hfg hf
    refine g_iald X (q0 := 2) (f := w.2 2) dL_shade_6 rfl hb2 ?_
    refine g_if_ne X dL_shade_7 (tgt := 29) (by decide) hf (fun c3 hf => ?_) (fun c3 hf => ?_)
    · refine g_aload_n X (i := 1) dL_shade_10 rfl rfl ?_
      refine g_iload_n X (i := 3) dL_shade_11 rfl rfl ?_
      refine g_iconst X dL_shade_12 (v := 1) (by decide) ?_
      obtain ⟨hb4, hf⟩ := hfg hf
      refine g_iast X (q0 := 2) (f := w.2 2) dL_shade_13 rfl hb4 (awR_2 ad cI _ _ _) ?_
      refine g_aload_n X (i := 2) dL_shade_14 rfl rfl ?_
      refine g_aload_n X (i := 0) dL_shade_15 rfl rfl ?_
      refine g_bipush X dL_shade_16 (v := 10) (by decide) ?_
      obtain ⟨hb5, hf⟩ := hfg hf
      refine g_iald X (q0 := 0) (f := w.2 0) dL_shade_18 rfl hb5 ?_
      refine g_iload_n X (i := 3) dL_shade_19 rfl rfl ?_
      obtain ⟨hb6, hf⟩ := hfg hf
      refine g_iast X (q0 := 6) (f := w.2 6) dL_shade_20 rfl hb6 (awR_6 ad cI _ _ _) ?_
      refine g_aload_n X (i := 0) dL_shade_21 rfl rfl ?_
      refine g_bipush X dL_shade_22 (v := 10) (by decide) ?_
      refine g_dup2 X dL_shade_24 rfl rfl ?_
      obtain ⟨hb7, hf⟩ := hfg hf
      refine g_iald X (q0 := 0) (f := w.2 0) dL_shade_25 rfl hb7 ?_
      refine g_iconst X dL_shade_26 (v := 1) (by decide) ?_
      refine g_iadd X dL_shade_27 ?_
      obtain ⟨hb8, hf⟩ := hfg hf
      refine g_iast X (q0 := 0) (f := w.2 0) dL_shade_28 rfl hb8 (awR_0 ad cI _ _ _) ?_
      exact g_vret X hr dL_shade_29 hf
    · exact g_vret X hr dL_shade_29 hf
def f_L_care (x1 x2 x3 : Int32) (w : St) : Option (Int32 × St) := if ib 0 11 then (if (w.2 0 (0 : Int32).toNatClampNeg) = 1 then some ((1 : Int32)) else if ib 0 11 then (if (w.2 0 (0 : Int32).toNatClampNeg) = 2 then some ((1 : Int32)) else some ((0 : Int32))) else none).bind fun o3 => (if o3 = 0 then some (w) else if ib 8 11 then (if (w.2 0 (8 : Int32).toNatClampNeg) = 1 then (if x3 = 0 then some (w) else (f_L_shade x2 w).bind fun o15 => some (o15.2)) else some (w)) else none).bind fun o9 => (if o3 = 0 then some (0, o9) else if ib 8 11 then (if (o9.2 0 (8 : Int32).toNatClampNeg) = 2 then (if x2 = x1 then some (0, o9) else (f_L_shade x1 o9).bind fun o21 => some (0, o21.2)) else some (0, o9)) else none) else none
set_option maxRecDepth 100000 in
set_option maxHeartbeats 4000000 in
theorem c_L_care {l : Launch} {D : va_G} {cI : ClassId × ClassId} {A : Nat → Prop} {ad : Nat → Nat} {x1 x2 x3 : Int32} {w : St} {o : Int32 × St} (hf : f_L_care x1 x2 x3 w = some o) : CTv l D cI A yL_care cL_care 7 (none) rm_L_care [.ref (ad 0), .ref (ad 2), .ref (ad 6), .int x1, .int x2, .int x3] ((wR ad cI) w) ((wR ad cI) o.2)   := by
  refine CTv.of (by decide +kernel) rfl (Nat.le_of_ble_eq_true rfl) ?_
  intro p e s m args below meth c X hr
  have X : gX p s m args meth c cL_care 7 RL D cI := X
  show G _ _ _ _ _ _ _ _ _ _ _ _ _ _ _ _ _ 0 [some (.ref (ad 0)), some (.ref (ad 2)), some (.ref (ad 6)), some (.int x1), some (.int x2), some (.int x3), none] [] w
  unfold f_L_care at hf
  refine g_aload_n X (i := 0) dL_care_0 rfl rfl ?_
  refine g_iconst X dL_care_1 (v := 0) (by decide) ?_
  obtain ⟨hb1, hf⟩ := hfg hf
  refine g_iald X (q0 := 0) (f := w.2 0) dL_care_2 rfl hb1 ?_
  refine g_iconst X dL_care_3 (v := 1) (by decide) ?_
  obtain ⟨o3, h4, hf⟩ := hfb hf
  refine g_jn (M := 19) (lo2 := [some (.ref (ad 0)), some (.ref (ad 2)), some (.ref (ad 6)), some (.int x1), some (.int x2), some (.int x3), none]) (st2 := [.int o3]) (w2 := w) ?_ (fun K5 => ?_)
  · refine g_istore X dL_care_19 (by decide) rfl ?_
    refine g_iload X dL_care_21 rfl ?_
    obtain ⟨o9, h10, hf⟩ := hfb hf
    refine g_jn (M := 47) (lo2 := [some (.ref (ad 0)), some (.ref (ad 2)), some (.ref (ad 6)), some (.int x1), some (.int x2), none, some (.int o3)]) (st2 := []) (w2 := o9) ?_ (fun K11 => ?_)
    · refine g_iload X dL_care_47 rfl ?_
      refine g_if_eq X dL_care_49 (tgt := 73) (by decide) hf (fun c17 hf => ?_) (fun c17 hf => ?_)
      · exact g_vret X hr dL_care_73 hf
      · refine g_aload_n X (i := 0) dL_care_52 rfl rfl ?_
        refine g_bipush X dL_care_53 (v := 8) (by decide) ?_
        obtain ⟨hb18, hf⟩ := hfg hf
        refine g_iald X (q0 := 0) (f := o9.2 0) dL_care_55 rfl hb18 ?_
        refine g_iconst X dL_care_56 (v := 2) (by decide) ?_
        refine g_icmp_ne X dL_care_57 (tgt := 73) (by decide) hf (fun c19 hf => ?_) (fun c19 hf => ?_)
        · refine g_iload X dL_care_60 rfl ?_
          refine g_iload_n X (i := 3) dL_care_62 rfl rfl ?_
          refine g_icmp_eq X dL_care_63 (tgt := 73) (by decide) hf (fun c20 hf => ?_) (fun c20 hf => ?_)
          · exact g_vret X hr dL_care_73 hf
          · refine g_aload_n X (i := 0) dL_care_66 rfl rfl ?_
            refine g_aload_n X (i := 1) dL_care_67 rfl rfl ?_
            refine g_aload_n X (i := 2) dL_care_68 rfl rfl ?_
            refine g_iload_n X (i := 3) dL_care_69 rfl rfl ?_
            obtain ⟨o21, h22, hf⟩ := hfb hf
            refine g_Sv X (As := [.ref (ad 0), .ref (ad 2), .ref (ad 6), .int x1]) (rest := []) (c_L_shade h22) dL_care_70 ml_L_23 yv_L_shade rfl rfl ⟨Nat.le_of_ble_eq_true rfl, Nat.le_of_ble_eq_true rfl⟩ ⟨rfl, rfl⟩ (Nat.le_of_ble_eq_true rfl) ⟨Nat.le_of_ble_eq_true rfl, Nat.le_of_ble_eq_true rfl⟩ ?_
            exact g_vret X hr dL_care_73 hf
        · exact g_vret X hr dL_care_73 hf
    · have hf := h10
      refine g_if_eq X dL_care_23 (tgt := 47) (by decide) hf (fun c8 hf => ?_) (fun c8 hf => ?_)
      · obtain rfl := Option.some.inj hf
        refine g_sub (losub (lo' := [some (.ref (ad 0)), some (.ref (ad 2)), some (.ref (ad 6)), some (.int x1), some (.int x2), none, some (.int o3)]) ⟨rfl, rfl, rfl, rfl, rfl, rfl, trivial⟩) ?_
        exact K11
      · refine g_aload_n X (i := 0) dL_care_26 rfl rfl ?_
        refine g_bipush X dL_care_27 (v := 8) (by decide) ?_
        obtain ⟨hb12, hf⟩ := hfg hf
        refine g_iald X (q0 := 0) (f := w.2 0) dL_care_29 rfl hb12 ?_
        refine g_iconst X dL_care_30 (v := 1) (by decide) ?_
        refine g_icmp_ne X dL_care_31 (tgt := 47) (by decide) hf (fun c13 hf => ?_) (fun c13 hf => ?_)
        · refine g_iload X dL_care_34 rfl ?_
          refine g_if_eq X dL_care_36 (tgt := 47) (by decide) hf (fun c14 hf => ?_) (fun c14 hf => ?_)
          · obtain rfl := Option.some.inj hf
            refine g_sub (losub (lo' := [some (.ref (ad 0)), some (.ref (ad 2)), some (.ref (ad 6)), some (.int x1), some (.int x2), none, some (.int o3)]) ⟨rfl, rfl, rfl, rfl, rfl, rfl, trivial⟩) ?_
            exact K11
          · refine g_aload_n X (i := 0) dL_care_39 rfl rfl ?_
            refine g_aload_n X (i := 1) dL_care_40 rfl rfl ?_
            refine g_aload_n X (i := 2) dL_care_41 rfl rfl ?_
            refine g_iload X dL_care_42 rfl ?_
            obtain ⟨o15, h16, hf⟩ := hfb hf
            refine g_Sv X (As := [.ref (ad 0), .ref (ad 2), .ref (ad 6), .int x2]) (rest := []) (c_L_shade h16) dL_care_44 ml_L_23 yv_L_shade rfl rfl ⟨Nat.le_of_ble_eq_true rfl, Nat.le_of_ble_eq_true rfl⟩ ⟨rfl, rfl⟩ (Nat.le_of_ble_eq_true rfl) ⟨Nat.le_of_ble_eq_true rfl, Nat.le_of_ble_eq_true rfl⟩ ?_
            obtain rfl := Option.some.inj hf
            refine g_sub (losub (lo' := [some (.ref (ad 0)), some (.ref (ad 2)), some (.ref (ad 6)), some (.int x1), some (.int x2), none, some (.int o3)]) ⟨rfl, rfl, rfl, rfl, rfl, rfl, trivial⟩) ?_
            exact K11
        · obtain rfl := Option.some.inj hf
          refine g_sub (losub (lo' := [some (.ref (ad 0)), some (.ref (ad 2)), some (.ref (ad 6)), some (.int x1), some (.int x2), none, some (.int o3)]) ⟨rfl, rfl, rfl, rfl, rfl, rfl, trivial⟩) ?_
          exact K11
  · have hf := h4
    refine g_icmp_eq X dL_care_4 (tgt := 14) (by decide) hf (fun c2 hf => ?_) (fun c2 hf => ?_)
    · refine g_iconst X dL_care_14 (v := 1) (by decide) ?_
      refine g_goto X dL_care_15 (tgt := 19) (by decide) ?_
      obtain rfl := Option.some.inj hf
      exact K5
    · refine g_aload_n X (i := 0) dL_care_7 rfl rfl ?_
      refine g_iconst X dL_care_8 (v := 0) (by decide) ?_
      obtain ⟨hb6, hf⟩ := hfg hf
      refine g_iald X (q0 := 0) (f := w.2 0) dL_care_9 rfl hb6 ?_
      refine g_iconst X dL_care_10 (v := 2) (by decide) ?_
      refine g_icmp_ne X dL_care_11 (tgt := 18) (by decide) hf (fun c7 hf => ?_) (fun c7 hf => ?_)
      · refine g_iconst X dL_care_14 (v := 1) (by decide) ?_
        refine g_goto X dL_care_15 (tgt := 19) (by decide) ?_
        obtain rfl := Option.some.inj hf
        exact K5
      · refine g_iconst X dL_care_18 (v := 0) (by decide) ?_
        obtain rfl := Option.some.inj hf
        exact K5
def f_L_writeRoot (x1 x2 : Int32) (w : St) : Option (Int32 × St) := if ib x1 8 then if ib x1 8 then (f_L_care (w.2 7 x1.toNatClampNeg) x2 1 (sA w 7 x1 x2)).bind fun o3 => some (w.2 7 x1.toNatClampNeg, o3.2) else none else none
set_option maxRecDepth 100000 in
set_option maxHeartbeats 4000000 in
theorem c_L_writeRoot {l : Launch} {D : va_G} {cI : ClassId × ClassId} {A : Nat → Prop} {ad : Nat → Nat} {x1 x2 : Int32} {w : St} {o : Int32 × St} (hf : f_L_writeRoot x1 x2 w = some o) : CTi l D cI A yL_writeRoot cL_writeRoot 7 (some .int) rm_L_writeRoot [.ref (ad 0), .ref (ad 2), .ref (ad 6), .ref (ad 7), .int x1, .int x2] ((wR ad cI) w) o.1 ((wR ad cI) o.2)   := by
  refine CTi.of (by decide +kernel) rfl (Nat.le_of_ble_eq_true rfl) ?_
  intro p e s m args below meth c X hr
  have X : gX p s m args meth c cL_writeRoot 7 RL D cI := X
  show G _ _ _ _ _ _ _ _ _ _ _ _ _ _ _ _ _ 0 [some (.ref (ad 0)), some (.ref (ad 2)), some (.ref (ad 6)), some (.ref (ad 7)), some (.int x1), some (.int x2), none] [] w
  unfold f_L_writeRoot at hf
  refine g_aload_n X (i := 3) dL_writeRoot_0 rfl rfl ?_
  refine g_iload X dL_writeRoot_1 rfl ?_
  obtain ⟨hb1, hf⟩ := hfg hf
  refine g_iald X (q0 := 7) (f := w.2 7) dL_writeRoot_3 rfl hb1 ?_
  refine g_istore X dL_writeRoot_4 (by decide) rfl ?_
  refine g_aload_n X (i := 3) dL_writeRoot_6 rfl rfl ?_
  refine g_iload X dL_writeRoot_7 rfl ?_
  refine g_iload X dL_writeRoot_9 rfl ?_
  obtain ⟨hb2, hf⟩ := hfg hf
  refine g_iast X (q0 := 7) (f := w.2 7) dL_writeRoot_11 rfl hb2 (awR_7 ad cI _ _ _) ?_
  refine g_aload_n X (i := 0) dL_writeRoot_12 rfl rfl ?_
  refine g_aload_n X (i := 1) dL_writeRoot_13 rfl rfl ?_
  refine g_aload_n X (i := 2) dL_writeRoot_14 rfl rfl ?_
  refine g_iload X dL_writeRoot_15 rfl ?_
  refine g_iload X dL_writeRoot_17 rfl ?_
  refine g_iconst X dL_writeRoot_19 (v := 1) (by decide) ?_
  obtain ⟨o3, h4, hf⟩ := hfb hf
  refine g_Sv X (As := [.ref (ad 0), .ref (ad 2), .ref (ad 6), .int (w.2 7 x1.toNatClampNeg), .int x2, .int 1]) (rest := []) (c_L_care h4) dL_writeRoot_20 ml_L_27 yv_L_care rfl rfl ⟨Nat.le_of_ble_eq_true rfl, Nat.le_of_ble_eq_true rfl⟩ ⟨rfl, rfl⟩ (Nat.le_of_ble_eq_true rfl) ⟨Nat.le_of_ble_eq_true rfl, Nat.le_of_ble_eq_true rfl⟩ ?_
  refine g_iload X dL_writeRoot_23 rfl ?_
  exact g_iret X hr dL_writeRoot_25 hf
def f_L_start_L29 : Nat → Int32 → St → Option (St)
  | 0, _, _ => none
  | n + 1, x6, w => (if x6 < 24 then if ib x6 24 then (if (w.2 2 x6.toNatClampNeg) < 0 then some (((-1) : Int32)) else some ((0 : Int32))).bind fun o10 => if ib x6 24 then if ib x6 24 then if ib x6 24 then f_L_start_L29 n (x6 + 1) (sA (sA w 2 x6 o10) 4 x6 ((w.2 4 x6.toNatClampNeg) + 1)) else none else none else none else none else some (w))
def f_L_start_L69 : Nat → Int32 → St → Option (St)
  | 0, _, _ => none
  | n + 1, x6, w => (if x6 < 4 then if ib x6 8 then (f_L_shade (w.2 7 x6.toNatClampNeg) w).bind fun o20 => f_L_start_L69 n (x6 + 1) o20.2 else none else some (w))
def f_L_start_L96 : Nat → Int32 → St → Option (St)
  | 0, _, _ => none
  | n + 1, x6, w => if ib 9 11 then (if x6 < (w.2 0 (9 : Int32).toNatClampNeg) then if ib x6 24 then (f_L_shade (w.2 5 x6.toNatClampNeg) w).bind fun o27 => f_L_start_L96 n (x6 + 1) o27.2 else none else some (w)) else none
def f_L_start (w : St) : Option (Int32 × St) := if ib 0 11 then if ib 2 11 then if ib 2 11 then if ib 6 11 then if ib 7 11 then if ib 10 11 then (f_L_start_L29 BIG 0 (sA (sA (sA (sA (sA w 0 0 1) 0 2 (((sA w 0 0 1).2 0 (2 : Int32).toNatClampNeg) + 1)) 0 6 0) 0 7 0) 0 10 0)).bind fun o16 => (f_L_start_L69 BIG 0 o16).bind fun o22 => (f_L_start_L96 BIG 0 o22).bind fun o29 => some (0, o29) else none else none else none else none else none else none
set_option maxRecDepth 100000 in
set_option maxHeartbeats 4000000 in
theorem gl_L_start_L29 {p : Program} {l : Launch} {e : Env} {s : State} {m : MethodId} {args : Array Value} {below : List Frame} {meth : Method} {c : Code} {D : va_G} {A : Nat → Prop} {cI : ClassId × ClassId} {ad : Nat → Nat} {Q : State → Prop} {o : St} (X : gX p s m args meth c cL_start 7 RL D cI) (n : Nat) : ∀ {x6 : Int32} {w : St}, f_L_start_L29 n x6 w = some o → G p l e rm_L_start s m args below meth c D A 7 Q (wR ad cI) 0 0 66 [some (.ref (ad 0)), some (.ref (ad 2)), none, some (.ref (ad 5)), some (.ref (ad 6)), some (.ref (ad 7)), none] [] o → G p l e rm_L_start s m args below meth c D A 7 Q (wR ad cI) 0 0 29 [some (.ref (ad 0)), some (.ref (ad 2)), some (.ref (ad 4)), some (.ref (ad 5)), some (.ref (ad 6)), some (.ref (ad 7)), some (.int x6)] [] w := by
  induction n with
  | zero => intro x6 w hf; cases hf
  | succ n ih =>
    intro x6 w hf k
    rw [f_L_start_L29] at hf
    refine g_iload X dL_start_29 rfl ?_
    refine g_bipush X dL_start_31 (v := 24) (by decide) ?_
    refine g_icmp_ge X dL_start_33 (tgt := 66) (by decide) hf (fun c7 hf => ?_) (fun c7 hf => ?_)
    · refine g_aload_n X (i := 1) dL_start_36 rfl rfl ?_
      refine g_iload X dL_start_37 rfl ?_
      refine g_aload_n X (i := 1) dL_start_39 rfl rfl ?_
      refine g_iload X dL_start_40 rfl ?_
      obtain ⟨hb8, hf⟩ := hfg hf
      refine g_iald X (q0 := 2) (f := w.2 2) dL_start_42 rfl hb8 ?_
      obtain ⟨o10, h11, hf⟩ := hfb hf
      refine g_jn (M := 51) (lo2 := [some (.ref (ad 0)), some (.ref (ad 2)), some (.ref (ad 4)), some (.ref (ad 5)), some (.ref (ad 6)), some (.ref (ad 7)), some (.int x6)]) (st2 := [.int o10, .int x6, .ref (ad 2)]) (w2 := w) ?_ (fun K12 => ?_)
      · obtain ⟨hb13, hf⟩ := hfg hf
        refine g_iast X (q0 := 2) (f := w.2 2) dL_start_51 rfl hb13 (awR_2 ad cI _ _ _) ?_
        refine g_aload_n X (i := 2) dL_start_52 rfl rfl ?_
        refine g_iload X dL_start_53 rfl ?_
        refine g_dup2 X dL_start_55 rfl rfl ?_
        obtain ⟨hb14, hf⟩ := hfg hf
        refine g_iald X (q0 := 4) (f := w.2 4) dL_start_56 rfl hb14 ?_
        refine g_iconst X dL_start_57 (v := 1) (by decide) ?_
        refine g_iadd X dL_start_58 ?_
        obtain ⟨hb15, hf⟩ := hfg hf
        refine g_iast X (q0 := 4) (f := w.2 4) dL_start_59 rfl hb15 (awR_4 ad cI _ _ _) ?_
        refine g_iinc X (i := 6) (v := 1) dL_start_60 rfl (by decide) (by decide) rfl ?_
        refine g_goto X dL_start_63 (tgt := 29) (by decide) ?_
        exact ih hf k
      · have hf := h11
        refine g_if_ge X dL_start_43 (tgt := 50) (by decide) hf (fun c9 hf => ?_) (fun c9 hf => ?_)
        · refine g_iconst X dL_start_46 (v := (-1)) (by decide) ?_
          refine g_goto X dL_start_47 (tgt := 51) (by decide) ?_
          obtain rfl := Option.some.inj hf
          exact K12
        · refine g_iconst X dL_start_50 (v := 0) (by decide) ?_
          obtain rfl := Option.some.inj hf
          exact K12
    · obtain rfl := Option.some.inj hf
      refine g_sub (losub (lo' := [some (.ref (ad 0)), some (.ref (ad 2)), none, some (.ref (ad 5)), some (.ref (ad 6)), some (.ref (ad 7)), none]) ⟨rfl, rfl, rfl, rfl, rfl, trivial⟩) ?_
      exact k
set_option maxRecDepth 100000 in
set_option maxHeartbeats 4000000 in
theorem gl_L_start_L69 {p : Program} {l : Launch} {e : Env} {s : State} {m : MethodId} {args : Array Value} {below : List Frame} {meth : Method} {c : Code} {D : va_G} {A : Nat → Prop} {cI : ClassId × ClassId} {ad : Nat → Nat} {Q : State → Prop} {o : St} (X : gX p s m args meth c cL_start 7 RL D cI) (n : Nat) : ∀ {x6 : Int32} {w : St}, f_L_start_L69 n x6 w = some o → G p l e rm_L_start s m args below meth c D A 7 Q (wR ad cI) 0 0 93 [some (.ref (ad 0)), some (.ref (ad 2)), none, some (.ref (ad 5)), some (.ref (ad 6)), none, none] [] o → G p l e rm_L_start s m args below meth c D A 7 Q (wR ad cI) 0 0 69 [some (.ref (ad 0)), some (.ref (ad 2)), none, some (.ref (ad 5)), some (.ref (ad 6)), some (.ref (ad 7)), some (.int x6)] [] w := by
  induction n with
  | zero => intro x6 w hf; cases hf
  | succ n ih =>
    intro x6 w hf k
    rw [f_L_start_L69] at hf
    refine g_iload X dL_start_69 rfl ?_
    refine g_iconst X dL_start_71 (v := 4) (by decide) ?_
    refine g_icmp_ge X dL_start_72 (tgt := 93) (by decide) hf (fun c18 hf => ?_) (fun c18 hf => ?_)
    · refine g_aload_n X (i := 0) dL_start_75 rfl rfl ?_
      refine g_aload_n X (i := 1) dL_start_76 rfl rfl ?_
      refine g_aload X dL_start_77 rfl ?_
      refine g_aload X dL_start_79 rfl ?_
      refine g_iload X dL_start_81 rfl ?_
      obtain ⟨hb19, hf⟩ := hfg hf
      refine g_iald X (q0 := 7) (f := w.2 7) dL_start_83 rfl hb19 ?_
      obtain ⟨o20, h21, hf⟩ := hfb hf
      refine g_Sv X (As := [.ref (ad 0), .ref (ad 2), .ref (ad 6), .int (w.2 7 x6.toNatClampNeg)]) (rest := []) (c_L_shade h21) dL_start_84 ml_L_23 yv_L_shade rfl rfl ⟨Nat.le_of_ble_eq_true rfl, Nat.le_of_ble_eq_true rfl⟩ ⟨rfl, rfl⟩ (Nat.le_of_ble_eq_true rfl) ⟨Nat.le_of_ble_eq_true rfl, Nat.le_of_ble_eq_true rfl⟩ ?_
      refine g_iinc X (i := 6) (v := 1) dL_start_87 rfl (by decide) (by decide) rfl ?_
      refine g_goto X dL_start_90 (tgt := 69) (by decide) ?_
      exact ih hf k
    · obtain rfl := Option.some.inj hf
      refine g_sub (losub (lo' := [some (.ref (ad 0)), some (.ref (ad 2)), none, some (.ref (ad 5)), some (.ref (ad 6)), none, none]) ⟨rfl, rfl, rfl, rfl, trivial⟩) ?_
      exact k
set_option maxRecDepth 100000 in
set_option maxHeartbeats 4000000 in
theorem gl_L_start_L96 {p : Program} {l : Launch} {e : Env} {s : State} {m : MethodId} {args : Array Value} {below : List Frame} {meth : Method} {c : Code} {D : va_G} {A : Nat → Prop} {cI : ClassId × ClassId} {ad : Nat → Nat} {Q : State → Prop} {o : St} (X : gX p s m args meth c cL_start 7 RL D cI) (n : Nat) : ∀ {x6 : Int32} {w : St}, f_L_start_L96 n x6 w = some o → G p l e rm_L_start s m args below meth c D A 7 Q (wR ad cI) 0 0 122 [none, none, none, none, none, none, none] [] o → G p l e rm_L_start s m args below meth c D A 7 Q (wR ad cI) 0 0 96 [some (.ref (ad 0)), some (.ref (ad 2)), none, some (.ref (ad 5)), some (.ref (ad 6)), none, some (.int x6)] [] w := by
  induction n with
  | zero => intro x6 w hf; cases hf
  | succ n ih =>
    intro x6 w hf k
    rw [f_L_start_L96] at hf
    refine g_iload X dL_start_96 rfl ?_
    refine g_aload_n X (i := 0) dL_start_98 rfl rfl ?_
    refine g_bipush X dL_start_99 (v := 9) (by decide) ?_
    obtain ⟨hb24, hf⟩ := hfg hf
    refine g_iald X (q0 := 0) (f := w.2 0) dL_start_101 rfl hb24 ?_
    refine g_icmp_ge X dL_start_102 (tgt := 122) (by decide) hf (fun c25 hf => ?_) (fun c25 hf => ?_)
    · refine g_aload_n X (i := 0) dL_start_105 rfl rfl ?_
      refine g_aload_n X (i := 1) dL_start_106 rfl rfl ?_
      refine g_aload X dL_start_107 rfl ?_
      refine g_aload_n X (i := 3) dL_start_109 rfl rfl ?_
      refine g_iload X dL_start_110 rfl ?_
      obtain ⟨hb26, hf⟩ := hfg hf
      refine g_iald X (q0 := 5) (f := w.2 5) dL_start_112 rfl hb26 ?_
      obtain ⟨o27, h28, hf⟩ := hfb hf
      refine g_Sv X (As := [.ref (ad 0), .ref (ad 2), .ref (ad 6), .int (w.2 5 x6.toNatClampNeg)]) (rest := []) (c_L_shade h28) dL_start_113 ml_L_23 yv_L_shade rfl rfl ⟨Nat.le_of_ble_eq_true rfl, Nat.le_of_ble_eq_true rfl⟩ ⟨rfl, rfl⟩ (Nat.le_of_ble_eq_true rfl) ⟨Nat.le_of_ble_eq_true rfl, Nat.le_of_ble_eq_true rfl⟩ ?_
      refine g_iinc X (i := 6) (v := 1) dL_start_116 rfl (by decide) (by decide) rfl ?_
      refine g_goto X dL_start_119 (tgt := 96) (by decide) ?_
      exact ih hf k
    · obtain rfl := Option.some.inj hf
      refine g_sub (losub (lo' := [none, none, none, none, none, none, none]) trivial) ?_
      exact k
set_option maxRecDepth 100000 in
set_option maxHeartbeats 4000000 in
theorem c_L_start {l : Launch} {D : va_G} {cI : ClassId × ClassId} {A : Nat → Prop} {ad : Nat → Nat} {w : St} {o : Int32 × St} (hf : f_L_start w = some o) : CTv l D cI A yL_start cL_start 7 (none) rm_L_start [.ref (ad 0), .ref (ad 2), .ref (ad 4), .ref (ad 5), .ref (ad 6), .ref (ad 7)] ((wR ad cI) w) ((wR ad cI) o.2)   := by
  refine CTv.of (by decide +kernel) rfl (Nat.le_of_ble_eq_true rfl) ?_
  intro p e s m args below meth c X hr
  have X : gX p s m args meth c cL_start 7 RL D cI := X
  show G _ _ _ _ _ _ _ _ _ _ _ _ _ _ _ _ _ 0 [some (.ref (ad 0)), some (.ref (ad 2)), some (.ref (ad 4)), some (.ref (ad 5)), some (.ref (ad 6)), some (.ref (ad 7)), none] [] w
  unfold f_L_start at hf
  refine g_aload_n X (i := 0) dL_start_0 rfl rfl ?_
  refine g_iconst X dL_start_1 (v := 0) (by decide) ?_
  refine g_iconst X dL_start_2 (v := 1) (by decide) ?_
  obtain ⟨hb1, hf⟩ := hfg hf
  refine g_iast X (q0 := 0) (f := w.2 0) dL_start_3 rfl hb1 (awR_0 ad cI _ _ _) ?_
  refine g_aload_n X (i := 0) dL_start_4 rfl rfl ?_
  refine g_iconst X dL_start_5 (v := 2) (by decide) ?_
  refine g_dup2 X dL_start_6 rfl rfl ?_
  obtain ⟨hb2, hf⟩ := hfg hf
  refine g_iald X (q0 := 0) (f := (sA w 0 0 1).2 0) dL_start_7 rfl hb2 ?_
  refine g_iconst X dL_start_8 (v := 1) (by decide) ?_
  refine g_iadd X dL_start_9 ?_
  obtain ⟨hb3, hf⟩ := hfg hf
  refine g_iast X (q0 := 0) (f := (sA w 0 0 1).2 0) dL_start_10 rfl hb3 (awR_0 ad cI _ _ _) ?_
  refine g_aload_n X (i := 0) dL_start_11 rfl rfl ?_
  refine g_bipush X dL_start_12 (v := 6) (by decide) ?_
  refine g_iconst X dL_start_14 (v := 0) (by decide) ?_
  obtain ⟨hb4, hf⟩ := hfg hf
  refine g_iast X (q0 := 0) (f := (sA (sA w 0 0 1) 0 2 (((sA w 0 0 1).2 0 (2 : Int32).toNatClampNeg) + 1)).2 0) dL_start_15 rfl hb4 (awR_0 ad cI _ _ _) ?_
  refine g_aload_n X (i := 0) dL_start_16 rfl rfl ?_
  refine g_bipush X dL_start_17 (v := 7) (by decide) ?_
  refine g_iconst X dL_start_19 (v := 0) (by decide) ?_
  obtain ⟨hb5, hf⟩ := hfg hf
  refine g_iast X (q0 := 0) (f := (sA (sA (sA w 0 0 1) 0 2 (((sA w 0 0 1).2 0 (2 : Int32).toNatClampNeg) + 1)) 0 6 0).2 0) dL_start_20 rfl hb5 (awR_0 ad cI _ _ _) ?_
  refine g_aload_n X (i := 0) dL_start_21 rfl rfl ?_
  refine g_bipush X dL_start_22 (v := 10) (by decide) ?_
  refine g_iconst X dL_start_24 (v := 0) (by decide) ?_
  obtain ⟨hb6, hf⟩ := hfg hf
  refine g_iast X (q0 := 0) (f := (sA (sA (sA (sA w 0 0 1) 0 2 (((sA w 0 0 1).2 0 (2 : Int32).toNatClampNeg) + 1)) 0 6 0) 0 7 0).2 0) dL_start_25 rfl hb6 (awR_0 ad cI _ _ _) ?_
  refine g_iconst X dL_start_26 (v := 0) (by decide) ?_
  refine g_istore X dL_start_27 (by decide) rfl ?_
  obtain ⟨o16, h17, hf⟩ := hfb hf
  refine gl_L_start_L29 X BIG h17 ?_
  refine g_iconst X dL_start_66 (v := 0) (by decide) ?_
  refine g_istore X dL_start_67 (by decide) rfl ?_
  obtain ⟨o22, h23, hf⟩ := hfb hf
  refine gl_L_start_L69 X BIG h23 ?_
  refine g_iconst X dL_start_93 (v := 0) (by decide) ?_
  refine g_istore X dL_start_94 (by decide) rfl ?_
  obtain ⟨o29, h30, hf⟩ := hfb hf
  refine gl_L_start_L96 X BIG h30 ?_
  exact g_vret X hr dL_start_122 hf
def f_L_sweep_L0 : Nat → St → Option (St)
  | 0, _ => none
  | n + 1, w => if ib 1 11 then (if (w.2 0 (1 : Int32).toNatClampNeg) < 24 then if ib 1 11 then if ib (w.2 0 (1 : Int32).toNatClampNeg) 24 then (if (w.2 2 (w.2 0 (1 : Int32).toNatClampNeg).toNatClampNeg) < 0 then if ib 1 11 then if ib 1 11 then f_L_sweep_L0 n (sA w 0 1 ((w.2 0 (1 : Int32).toNatClampNeg) + 1)) else none else none else some (w)) else none else none else some (w)) else none
def f_L_sweep_L90 : Nat → Int32 → Int32 → St → Option (St)
  | 0, _, _, _ => none
  | n + 1, x4, x5, w => (if x5 < 72 then (f_L_at x5 w).bind fun o25 => (if o25.1 = x4 then some (((-1) : Int32), o25.2) else (f_L_at x5 o25.2).bind fun o31 => some (o31.1, o31.2)).bind fun o28 => (f_L_put x5 o28.1 o28.2).bind fun o33 => f_L_sweep_L90 n x4 (x5 + 1) o33.2 else some (w))
def f_L_sweep_L133 : Nat → Int32 → Int32 → St → Option (St)
  | 0, _, _, _ => none
  | n + 1, x4, x5, w => (if x5 < 8 then if ib x5 8 then (if (w.2 7 x5.toNatClampNeg) = x4 then some (((-1) : Int32)) else if ib x5 8 then some (w.2 7 x5.toNatClampNeg) else none).bind fun o40 => if ib x5 8 then f_L_sweep_L133 n x4 (x5 + 1) (sA w 7 x5 o40) else none else none else some (w))
def f_L_sweep (w : St) : Option (Int32 × St) := (f_L_sweep_L0 BIG w).bind fun o8 => if ib 1 11 then (if (o8.2 0 (1 : Int32).toNatClampNeg) = 24 then if ib 0 11 then some (0, sA o8 0 0 0) else none else if ib 1 11 then if ib 1 11 then if ib 1 11 then if ib (o8.2 0 (1 : Int32).toNatClampNeg) 24 then (if (0 : Int32) < (o8.2 2 (o8.2 0 (1 : Int32).toNatClampNeg).toNatClampNeg) then if ib (o8.2 0 (1 : Int32).toNatClampNeg) 24 then some (0, sA (sA o8 0 1 ((o8.2 0 (1 : Int32).toNatClampNeg) + 1)) 2 (o8.2 0 (1 : Int32).toNatClampNeg) 0) else none else if ib (o8.2 0 (1 : Int32).toNatClampNeg) 24 then if ib 4 11 then if ib 4 11 then if ib 7 11 then if ib 7 11 then (f_L_sweep_L90 BIG (o8.2 0 (1 : Int32).toNatClampNeg) 0 (sA (sA (sA (sA o8 0 1 ((o8.2 0 (1 : Int32).toNatClampNeg) + 1)) 2 (o8.2 0 (1 : Int32).toNatClampNeg) (-1)) 0 4 (((sA (sA o8 0 1 ((o8.2 0 (1 : Int32).toNatClampNeg) + 1)) 2 (o8.2 0 (1 : Int32).toNatClampNeg) (-1)).2 0 (4 : Int32).toNatClampNeg) + 1)) 0 7 (((sA (sA (sA o8 0 1 ((o8.2 0 (1 : Int32).toNatClampNeg) + 1)) 2 (o8.2 0 (1 : Int32).toNatClampNeg) (-1)) 0 4 (((sA (sA o8 0 1 ((o8.2 0 (1 : Int32).toNatClampNeg) + 1)) 2 (o8.2 0 (1 : Int32).toNatClampNeg) (-1)).2 0 (4 : Int32).toNatClampNeg) + 1)).2 0 (7 : Int32).toNatClampNeg) ||| (1 <<< ((o8.2 0 (1 : Int32).toNatClampNeg) &&& 31))))).bind fun o35 => (f_L_sweep_L133 BIG (o8.2 0 (1 : Int32).toNatClampNeg) 0 o35).bind fun o45 => some (0, o45) else none else none else none else none else none) else none else none else none else none) else none
set_option maxRecDepth 100000 in
set_option maxHeartbeats 4000000 in
theorem gl_L_sweep_L0 {p : Program} {l : Launch} {e : Env} {s : State} {m : MethodId} {args : Array Value} {below : List Frame} {meth : Method} {c : Code} {D : va_G} {A : Nat → Prop} {cI : ClassId × ClassId} {ad : Nat → Nat} {Q : State → Prop} {o : St} (X : gX p s m args meth c cL_sweep 6 RL D cI) (n : Nat) : ∀ {w : St}, f_L_sweep_L0 n w = some o → G p l e rm_L_sweep s m args below meth c D A 6 Q (wR ad cI) 0 0 26 [some (.ref (ad 0)), some (.ref (ad 1)), some (.ref (ad 2)), some (.ref (ad 7)), none, none] [] o → G p l e rm_L_sweep s m args below meth c D A 6 Q (wR ad cI) 0 0 0 [some (.ref (ad 0)), some (.ref (ad 1)), some (.ref (ad 2)), some (.ref (ad 7)), none, none] [] w := by
  induction n with
  | zero => intro  w hf; cases hf
  | succ n ih =>
    intro  w hf k
    rw [f_L_sweep_L0] at hf
    refine g_aload_n X (i := 0) dL_sweep_0 rfl rfl ?_
    refine g_iconst X dL_sweep_1 (v := 1) (by decide) ?_
    obtain ⟨hb1, hf⟩ := hfg hf
    refine g_iald X (q0 := 0) (f := w.2 0) dL_sweep_2 rfl hb1 ?_
    refine g_bipush X dL_sweep_3 (v := 24) (by decide) ?_
    refine g_icmp_ge X dL_sweep_5 (tgt := 26) (by decide) hf (fun c2 hf => ?_) (fun c2 hf => ?_)
    · refine g_aload_n X (i := 2) dL_sweep_8 rfl rfl ?_
      refine g_aload_n X (i := 0) dL_sweep_9 rfl rfl ?_
      refine g_iconst X dL_sweep_10 (v := 1) (by decide) ?_
      obtain ⟨hb3, hf⟩ := hfg hf
      refine g_iald X (q0 := 0) (f := w.2 0) dL_sweep_11 rfl hb3 ?_
      obtain ⟨hb4, hf⟩ := hfg hf
      refine g_iald X (q0 := 2) (f := w.2 2) dL_sweep_12 rfl hb4 ?_
      refine g_if_ge X dL_sweep_13 (tgt := 26) (by decide) hf (fun c5 hf => ?_) (fun c5 hf => ?_)
      · refine g_aload_n X (i := 0) dL_sweep_16 rfl rfl ?_
        refine g_iconst X dL_sweep_17 (v := 1) (by decide) ?_
        refine g_dup2 X dL_sweep_18 rfl rfl ?_
        obtain ⟨hb6, hf⟩ := hfg hf
        refine g_iald X (q0 := 0) (f := w.2 0) dL_sweep_19 rfl hb6 ?_
        refine g_iconst X dL_sweep_20 (v := 1) (by decide) ?_
        refine g_iadd X dL_sweep_21 ?_
        obtain ⟨hb7, hf⟩ := hfg hf
        refine g_iast X (q0 := 0) (f := w.2 0) dL_sweep_22 rfl hb7 (awR_0 ad cI _ _ _) ?_
        refine g_goto X dL_sweep_23 (tgt := 0) (by decide) ?_
        exact ih hf k
      · obtain rfl := Option.some.inj hf
        exact k
    · obtain rfl := Option.some.inj hf
      exact k
set_option maxRecDepth 100000 in
set_option maxHeartbeats 4000000 in
theorem gl_L_sweep_L90 {p : Program} {l : Launch} {e : Env} {s : State} {m : MethodId} {args : Array Value} {below : List Frame} {meth : Method} {c : Code} {D : va_G} {A : Nat → Prop} {cI : ClassId × ClassId} {ad : Nat → Nat} {Q : State → Prop} {o : St} (X : gX p s m args meth c cL_sweep 6 RL D cI) (n : Nat) : ∀ {x4 x5 : Int32} {w : St}, f_L_sweep_L90 n x4 x5 w = some o → G p l e rm_L_sweep s m args below meth c D A 6 Q (wR ad cI) 0 0 130 [none, none, none, some (.ref (ad 7)), some (.int x4), none] [] o → G p l e rm_L_sweep s m args below meth c D A 6 Q (wR ad cI) 0 0 90 [none, some (.ref (ad 1)), none, some (.ref (ad 7)), some (.int x4), some (.int x5)] [] w := by
  induction n with
  | zero => intro x4 x5 w hf; cases hf
  | succ n ih =>
    intro x4 x5 w hf k
    rw [f_L_sweep_L90] at hf
    refine g_iload X dL_sweep_90 rfl ?_
    refine g_bipush X dL_sweep_92 (v := 72) (by decide) ?_
    refine g_icmp_ge X dL_sweep_94 (tgt := 130) (by decide) hf (fun c24 hf => ?_) (fun c24 hf => ?_)
    · refine g_aload_n X (i := 1) dL_sweep_97 rfl rfl ?_
      refine g_iload X dL_sweep_98 rfl ?_
      refine g_aload_n X (i := 1) dL_sweep_100 rfl rfl ?_
      refine g_iload X dL_sweep_101 rfl ?_
      obtain ⟨o25, h26, hf⟩ := hfb hf
      refine g_Si X (As := [.ref (ad 1), .int x5]) (rest := [.int x5, .ref (ad 1)]) (c_L_at h26) dL_sweep_103 ml_L_9 yv_L_at rfl rfl ⟨Nat.le_of_ble_eq_true rfl, Nat.le_of_ble_eq_true rfl⟩ ⟨rfl, rfl⟩ (Nat.le_of_ble_eq_true rfl) ⟨Nat.le_of_ble_eq_true rfl, Nat.le_of_ble_eq_true rfl⟩ ?_
      refine g_iload X dL_sweep_106 rfl ?_
      obtain ⟨o28, h29, hf⟩ := hfb hf
      refine g_jn (M := 121) (lo2 := [none, some (.ref (ad 1)), none, some (.ref (ad 7)), some (.int x4), some (.int x5)]) (st2 := [.int o28.1, .int x5, .ref (ad 1)]) (w2 := o28.2) ?_ (fun K30 => ?_)
      · obtain ⟨o33, h34, hf⟩ := hfb hf
        refine g_Sv X (As := [.ref (ad 1), .int x5, .int o28.1]) (rest := []) (c_L_put h34) dL_sweep_121 ml_L_31 yv_L_put rfl rfl ⟨Nat.le_of_ble_eq_true rfl, Nat.le_of_ble_eq_true rfl⟩ ⟨rfl, rfl⟩ (Nat.le_of_ble_eq_true rfl) ⟨Nat.le_of_ble_eq_true rfl, Nat.le_of_ble_eq_true rfl⟩ ?_
        refine g_iinc X (i := 5) (v := 1) dL_sweep_124 rfl (by decide) (by decide) rfl ?_
        refine g_goto X dL_sweep_127 (tgt := 90) (by decide) ?_
        exact ih hf k
      · have hf := h29
        refine g_icmp_ne X dL_sweep_108 (tgt := 115) (by decide) hf (fun c27 hf => ?_) (fun c27 hf => ?_)
        · refine g_iconst X dL_sweep_111 (v := (-1)) (by decide) ?_
          refine g_goto X dL_sweep_112 (tgt := 121) (by decide) ?_
          obtain rfl := Option.some.inj hf
          exact K30
        · refine g_aload_n X (i := 1) dL_sweep_115 rfl rfl ?_
          refine g_iload X dL_sweep_116 rfl ?_
          obtain ⟨o31, h32, hf⟩ := hfb hf
          refine g_Si X (As := [.ref (ad 1), .int x5]) (rest := [.int x5, .ref (ad 1)]) (c_L_at h32) dL_sweep_118 ml_L_9 yv_L_at rfl rfl ⟨Nat.le_of_ble_eq_true rfl, Nat.le_of_ble_eq_true rfl⟩ ⟨rfl, rfl⟩ (Nat.le_of_ble_eq_true rfl) ⟨Nat.le_of_ble_eq_true rfl, Nat.le_of_ble_eq_true rfl⟩ ?_
          obtain rfl := Option.some.inj hf
          exact K30
    · obtain rfl := Option.some.inj hf
      refine g_sub (losub (lo' := [none, none, none, some (.ref (ad 7)), some (.int x4), none]) ⟨rfl, rfl, trivial⟩) ?_
      exact k
set_option maxRecDepth 100000 in
set_option maxHeartbeats 4000000 in
theorem gl_L_sweep_L133 {p : Program} {l : Launch} {e : Env} {s : State} {m : MethodId} {args : Array Value} {below : List Frame} {meth : Method} {c : Code} {D : va_G} {A : Nat → Prop} {cI : ClassId × ClassId} {ad : Nat → Nat} {Q : State → Prop} {o : St} (X : gX p s m args meth c cL_sweep 6 RL D cI) (n : Nat) : ∀ {x4 x5 : Int32} {w : St}, f_L_sweep_L133 n x4 x5 w = some o → G p l e rm_L_sweep s m args below meth c D A 6 Q (wR ad cI) 0 0 167 [none, none, none, none, none, none] [] o → G p l e rm_L_sweep s m args below meth c D A 6 Q (wR ad cI) 0 0 133 [none, none, none, some (.ref (ad 7)), some (.int x4), some (.int x5)] [] w := by
  induction n with
  | zero => intro x4 x5 w hf; cases hf
  | succ n ih =>
    intro x4 x5 w hf k
    rw [f_L_sweep_L133] at hf
    refine g_iload X dL_sweep_133 rfl ?_
    refine g_bipush X dL_sweep_135 (v := 8) (by decide) ?_
    refine g_icmp_ge X dL_sweep_137 (tgt := 167) (by decide) hf (fun c37 hf => ?_) (fun c37 hf => ?_)
    · refine g_aload_n X (i := 3) dL_sweep_140 rfl rfl ?_
      refine g_iload X dL_sweep_141 rfl ?_
      refine g_aload_n X (i := 3) dL_sweep_143 rfl rfl ?_
      refine g_iload X dL_sweep_144 rfl ?_
      obtain ⟨hb38, hf⟩ := hfg hf
      refine g_iald X (q0 := 7) (f := w.2 7) dL_sweep_146 rfl hb38 ?_
      refine g_iload X dL_sweep_147 rfl ?_
      obtain ⟨o40, h41, hf⟩ := hfb hf
      refine g_jn (M := 160) (lo2 := [none, none, none, some (.ref (ad 7)), some (.int x4), some (.int x5)]) (st2 := [.int o40, .int x5, .ref (ad 7)]) (w2 := w) ?_ (fun K42 => ?_)
      · obtain ⟨hb44, hf⟩ := hfg hf
        refine g_iast X (q0 := 7) (f := w.2 7) dL_sweep_160 rfl hb44 (awR_7 ad cI _ _ _) ?_
        refine g_iinc X (i := 5) (v := 1) dL_sweep_161 rfl (by decide) (by decide) rfl ?_
        refine g_goto X dL_sweep_164 (tgt := 133) (by decide) ?_
        exact ih hf k
      · have hf := h41
        refine g_icmp_ne X dL_sweep_149 (tgt := 156) (by decide) hf (fun c39 hf => ?_) (fun c39 hf => ?_)
        · refine g_iconst X dL_sweep_152 (v := (-1)) (by decide) ?_
          refine g_goto X dL_sweep_153 (tgt := 160) (by decide) ?_
          obtain rfl := Option.some.inj hf
          exact K42
        · refine g_aload_n X (i := 3) dL_sweep_156 rfl rfl ?_
          refine g_iload X dL_sweep_157 rfl ?_
          obtain ⟨hb43, hf⟩ := hfg hf
          refine g_iald X (q0 := 7) (f := w.2 7) dL_sweep_159 rfl hb43 ?_
          obtain rfl := Option.some.inj hf
          exact K42
    · obtain rfl := Option.some.inj hf
      refine g_sub (losub (lo' := [none, none, none, none, none, none]) trivial) ?_
      exact k
set_option maxRecDepth 100000 in
set_option maxHeartbeats 4000000 in
theorem c_L_sweep {l : Launch} {D : va_G} {cI : ClassId × ClassId} {A : Nat → Prop} {ad : Nat → Nat} {w : St} {o : Int32 × St} (hf : f_L_sweep w = some o) : CTv l D cI A yL_sweep cL_sweep 6 (none) rm_L_sweep [.ref (ad 0), .ref (ad 1), .ref (ad 2), .ref (ad 7)] ((wR ad cI) w) ((wR ad cI) o.2)   := by
  refine CTv.of (by decide +kernel) rfl (Nat.le_of_ble_eq_true rfl) ?_
  intro p e s m args below meth c X hr
  have X : gX p s m args meth c cL_sweep 6 RL D cI := X
  show G _ _ _ _ _ _ _ _ _ _ _ _ _ _ _ _ _ 0 [some (.ref (ad 0)), some (.ref (ad 1)), some (.ref (ad 2)), some (.ref (ad 7)), none, none] [] w
  unfold f_L_sweep at hf
  obtain ⟨o8, h9, hf⟩ := hfb hf
  refine gl_L_sweep_L0 X BIG h9 ?_
  refine g_aload_n X (i := 0) dL_sweep_26 rfl rfl ?_
  refine g_iconst X dL_sweep_27 (v := 1) (by decide) ?_
  obtain ⟨hb10, hf⟩ := hfg hf
  refine g_iald X (q0 := 0) (f := o8.2 0) dL_sweep_28 rfl hb10 ?_
  refine g_bipush X dL_sweep_29 (v := 24) (by decide) ?_
  refine g_icmp_ne X dL_sweep_31 (tgt := 39) (by decide) hf (fun c11 hf => ?_) (fun c11 hf => ?_)
  · refine g_aload_n X (i := 0) dL_sweep_34 rfl rfl ?_
    refine g_iconst X dL_sweep_35 (v := 0) (by decide) ?_
    refine g_iconst X dL_sweep_36 (v := 0) (by decide) ?_
    obtain ⟨hb12, hf⟩ := hfg hf
    refine g_iast X (q0 := 0) (f := o8.2 0) dL_sweep_37 rfl hb12 (awR_0 ad cI _ _ _) ?_
    exact g_vret X hr dL_sweep_38 hf
  · refine g_aload_n X (i := 0) dL_sweep_39 rfl rfl ?_
    refine g_iconst X dL_sweep_40 (v := 1) (by decide) ?_
    obtain ⟨hb13, hf⟩ := hfg hf
    refine g_iald X (q0 := 0) (f := o8.2 0) dL_sweep_41 rfl hb13 ?_
    refine g_istore X dL_sweep_42 (by decide) rfl ?_
    refine g_aload_n X (i := 0) dL_sweep_44 rfl rfl ?_
    refine g_iconst X dL_sweep_45 (v := 1) (by decide) ?_
    refine g_dup2 X dL_sweep_46 rfl rfl ?_
    obtain ⟨hb14, hf⟩ := hfg hf
    refine g_iald X (q0 := 0) (f := o8.2 0) dL_sweep_47 rfl hb14 ?_
    refine g_iconst X dL_sweep_48 (v := 1) (by decide) ?_
    refine g_iadd X dL_sweep_49 ?_
    obtain ⟨hb15, hf⟩ := hfg hf
    refine g_iast X (q0 := 0) (f := o8.2 0) dL_sweep_50 rfl hb15 (awR_0 ad cI _ _ _) ?_
    refine g_aload_n X (i := 2) dL_sweep_51 rfl rfl ?_
    refine g_iload X dL_sweep_52 rfl ?_
    obtain ⟨hb16, hf⟩ := hfg hf
    refine g_iald X (q0 := 2) (f := o8.2 2) dL_sweep_54 rfl hb16 ?_
    refine g_if_le X dL_sweep_55 (tgt := 64) (by decide) hf (fun c17 hf => ?_) (fun c17 hf => ?_)
    · refine g_aload_n X (i := 2) dL_sweep_58 rfl rfl ?_
      refine g_iload X dL_sweep_59 rfl ?_
      refine g_iconst X dL_sweep_61 (v := 0) (by decide) ?_
      obtain ⟨hb18, hf⟩ := hfg hf
      refine g_iast X (q0 := 2) (f := o8.2 2) dL_sweep_62 rfl hb18 (awR_2 ad cI _ _ _) ?_
      exact g_vret X hr dL_sweep_63 hf
    · refine g_aload_n X (i := 2) dL_sweep_64 rfl rfl ?_
      refine g_iload X dL_sweep_65 rfl ?_
      refine g_iconst X dL_sweep_67 (v := (-1)) (by decide) ?_
      obtain ⟨hb19, hf⟩ := hfg hf
      refine g_iast X (q0 := 2) (f := o8.2 2) dL_sweep_68 rfl hb19 (awR_2 ad cI _ _ _) ?_
      refine g_aload_n X (i := 0) dL_sweep_69 rfl rfl ?_
      refine g_iconst X dL_sweep_70 (v := 4) (by decide) ?_
      refine g_dup2 X dL_sweep_71 rfl rfl ?_
      obtain ⟨hb20, hf⟩ := hfg hf
      refine g_iald X (q0 := 0) (f := (sA (sA o8 0 1 ((o8.2 0 (1 : Int32).toNatClampNeg) + 1)) 2 (o8.2 0 (1 : Int32).toNatClampNeg) (-1)).2 0) dL_sweep_72 rfl hb20 ?_
      refine g_iconst X dL_sweep_73 (v := 1) (by decide) ?_
      refine g_iadd X dL_sweep_74 ?_
      obtain ⟨hb21, hf⟩ := hfg hf
      refine g_iast X (q0 := 0) (f := (sA (sA o8 0 1 ((o8.2 0 (1 : Int32).toNatClampNeg) + 1)) 2 (o8.2 0 (1 : Int32).toNatClampNeg) (-1)).2 0) dL_sweep_75 rfl hb21 (awR_0 ad cI _ _ _) ?_
      refine g_aload_n X (i := 0) dL_sweep_76 rfl rfl ?_
      refine g_bipush X dL_sweep_77 (v := 7) (by decide) ?_
      refine g_dup2 X dL_sweep_79 rfl rfl ?_
      obtain ⟨hb22, hf⟩ := hfg hf
      refine g_iald X (q0 := 0) (f := (sA (sA (sA o8 0 1 ((o8.2 0 (1 : Int32).toNatClampNeg) + 1)) 2 (o8.2 0 (1 : Int32).toNatClampNeg) (-1)) 0 4 (((sA (sA o8 0 1 ((o8.2 0 (1 : Int32).toNatClampNeg) + 1)) 2 (o8.2 0 (1 : Int32).toNatClampNeg) (-1)).2 0 (4 : Int32).toNatClampNeg) + 1)).2 0) dL_sweep_80 rfl hb22 ?_
      refine g_iconst X dL_sweep_81 (v := 1) (by decide) ?_
      refine g_iload X dL_sweep_82 rfl ?_
      refine g_ishl X dL_sweep_84 ?_
      refine g_ior X dL_sweep_85 ?_
      obtain ⟨hb23, hf⟩ := hfg hf
      refine g_iast X (q0 := 0) (f := (sA (sA (sA o8 0 1 ((o8.2 0 (1 : Int32).toNatClampNeg) + 1)) 2 (o8.2 0 (1 : Int32).toNatClampNeg) (-1)) 0 4 (((sA (sA o8 0 1 ((o8.2 0 (1 : Int32).toNatClampNeg) + 1)) 2 (o8.2 0 (1 : Int32).toNatClampNeg) (-1)).2 0 (4 : Int32).toNatClampNeg) + 1)).2 0) dL_sweep_86 rfl hb23 (awR_0 ad cI _ _ _) ?_
      refine g_iconst X dL_sweep_87 (v := 0) (by decide) ?_
      refine g_istore X dL_sweep_88 (by decide) rfl ?_
      refine g_sub (losub (lo' := [none, some (.ref (ad 1)), none, some (.ref (ad 7)), some (.int (o8.2 0 (1 : Int32).toNatClampNeg)), some (.int 0)]) ⟨rfl, rfl, rfl, rfl, trivial⟩) ?_
      obtain ⟨o35, h36, hf⟩ := hfb hf
      refine gl_L_sweep_L90 X BIG h36 ?_
      refine g_iconst X dL_sweep_130 (v := 0) (by decide) ?_
      refine g_istore X dL_sweep_131 (by decide) rfl ?_
      obtain ⟨o45, h46, hf⟩ := hfb hf
      refine gl_L_sweep_L133 X BIG h46 ?_
      exact g_vret X hr dL_sweep_167 hf
def f_L_go_L48 : Nat → Int32 → Int32 → St → Option (St)
  | 0, _, _, _ => none
  | n + 1, x7, x8, w => if ib 10 11 then (if x8 < (w.2 0 (10 : Int32).toNatClampNeg) then if ib (x8 + 1) 24 then if ib x8 24 then f_L_go_L48 n x7 (x8 + 1) (sA w 6 x8 (w.2 6 (x8 + 1).toNatClampNeg)) else none else none else some (w)) else none
def f_L_go_L81 : Nat → Int32 → Int32 → St → Option (St)
  | 0, _, _, _ => none
  | n + 1, x7, x8, w => (if x8 < ((3 * x7) + 3) then (f_L_at x8 w).bind fun o19 => (f_L_shade o19.1 o19.2).bind fun o21 => f_L_go_L81 n x7 (x8 + 1) o21.2 else some (w))
def f_L_go_L120 : Nat → Int32 → St → Option (Int32 × St)
  | 0, _, _ => none
  | n + 1, x7, w => (if x7 < 24 then if ib x7 24 then (if (w.2 2 x7.toNatClampNeg) = 0 then if ib x7 24 then (if (w.2 3 x7.toNatClampNeg) = 1 then some (x7, w) else f_L_go_L120 n (x7 + 1) w) else none else f_L_go_L120 n (x7 + 1) w) else none else some (x7, w))
def f_L_go_L165 : Nat → Int32 → St → Option (St)
  | 0, _, _ => none
  | n + 1, x8, w => (if x8 < 8 then if ib x8 8 then (if (w.2 7 x8.toNatClampNeg) < 0 then if ib x8 8 then some (w.2 7 x8.toNatClampNeg) else none else if ib x8 8 then if ib (w.2 7 x8.toNatClampNeg) 24 then (if (w.2 2 (w.2 7 x8.toNatClampNeg).toNatClampNeg) = 0 then some (((-1) : Int32)) else if ib x8 8 then some (w.2 7 x8.toNatClampNeg) else none) else none else none).bind fun o38 => if ib x8 8 then f_L_go_L165 n (x8 + 1) (sA w 7 x8 o38) else none else none else some (w))
def f_L_go (w : St) : Option (Int32 × St) := if ib 6 11 then if ib 6 11 then if ib 0 11 then (if ((sA w 0 6 ((w.2 0 (6 : Int32).toNatClampNeg) + 1)).2 0 (0 : Int32).toNatClampNeg) = 3 then (f_L_sweep (sA w 0 6 ((w.2 0 (6 : Int32).toNatClampNeg) + 1))).bind fun o5 => some (0, o5.2) else if ib 10 11 then (if (0 : Int32) < ((sA w 0 6 ((w.2 0 (6 : Int32).toNatClampNeg) + 1)).2 0 (10 : Int32).toNatClampNeg) then if ib 0 24 then if ib 10 11 then if ib 10 11 then (f_L_go_L48 BIG (w.2 6 (0 : Int32).toNatClampNeg) 0 (sA (sA w 0 6 ((w.2 0 (6 : Int32).toNatClampNeg) + 1)) 0 10 (((sA w 0 6 ((w.2 0 (6 : Int32).toNatClampNeg) + 1)).2 0 (10 : Int32).toNatClampNeg) - 1))).bind fun o16 => (f_L_go_L81 BIG (w.2 6 (0 : Int32).toNatClampNeg) (3 * (w.2 6 (0 : Int32).toNatClampNeg)) o16).bind fun o23 => if ib (w.2 6 (0 : Int32).toNatClampNeg) 24 then some (0, sA o23 2 (w.2 6 (0 : Int32).toNatClampNeg) 2) else none else none else none else none else (f_L_go_L120 BIG 0 (sA w 0 6 ((w.2 0 (6 : Int32).toNatClampNeg) + 1))).bind fun o31 => if ib 0 11 then (if (o31.2.2 0 (0 : Int32).toNatClampNeg) = 1 then (f_L_go_L165 BIG 4 o31.2).bind fun o47 => if ib 0 11 then if ib 0 11 then if ib 1 11 then some (0, sA (sA o47 0 0 ((o47.2 0 (0 : Int32).toNatClampNeg) + 1)) 0 1 0) else none else none else none else (if o31.1 = 24 then (f_L_go_L165 BIG 4 o31.2).bind fun o53 => if ib 0 11 then if ib 0 11 then if ib 1 11 then some (0, sA (sA o53 0 0 ((o53.2 0 (0 : Int32).toNatClampNeg) + 1)) 0 1 0) else none else none else none else if ib o31.1 24 then if ib 9 11 then if ib (o31.2.2 0 (9 : Int32).toNatClampNeg) 24 then if ib 9 11 then if ib 9 11 then (f_L_shade o31.1 (sA (sA (sA o31.2 3 o31.1 0) 5 (o31.2.2 0 (9 : Int32).toNatClampNeg) o31.1) 0 9 ((o31.2.2 0 (9 : Int32).toNatClampNeg) + 1))).bind fun o63 => some (0, o63.2) else none else none else none else none else none)) else none) else none) else none else none else none
set_option maxRecDepth 100000 in
set_option maxHeartbeats 4000000 in
theorem gl_L_go_L48 {p : Program} {l : Launch} {e : Env} {s : State} {m : MethodId} {args : Array Value} {below : List Frame} {meth : Method} {c : Code} {D : va_G} {A : Nat → Prop} {cI : ClassId × ClassId} {ad : Nat → Nat} {Q : State → Prop} {o : St} (X : gX p s m args meth c cL_go 9 RL D cI) (n : Nat) : ∀ {x7 x8 : Int32} {w : St}, f_L_go_L48 n x7 x8 w = some o → G p l e rm_L_go s m args below meth c D A 9 Q (wR ad cI) 0 0 75 [some (.ref (ad 0)), some (.ref (ad 1)), some (.ref (ad 2)), none, none, some (.ref (ad 6)), none, some (.int x7), none] [] o → G p l e rm_L_go s m args below meth c D A 9 Q (wR ad cI) 0 0 48 [some (.ref (ad 0)), some (.ref (ad 1)), some (.ref (ad 2)), none, none, some (.ref (ad 6)), none, some (.int x7), some (.int x8)] [] w := by
  induction n with
  | zero => intro x7 x8 w hf; cases hf
  | succ n ih =>
    intro x7 x8 w hf k
    rw [f_L_go_L48] at hf
    refine g_iload X dL_go_48 rfl ?_
    refine g_aload_n X (i := 0) dL_go_50 rfl rfl ?_
    refine g_bipush X dL_go_51 (v := 10) (by decide) ?_
    obtain ⟨hb12, hf⟩ := hfg hf
    refine g_iald X (q0 := 0) (f := w.2 0) dL_go_53 rfl hb12 ?_
    refine g_icmp_ge X dL_go_54 (tgt := 75) (by decide) hf (fun c13 hf => ?_) (fun c13 hf => ?_)
    · refine g_aload X dL_go_57 rfl ?_
      refine g_iload X dL_go_59 rfl ?_
      refine g_aload X dL_go_61 rfl ?_
      refine g_iload X dL_go_63 rfl ?_
      refine g_iconst X dL_go_65 (v := 1) (by decide) ?_
      refine g_iadd X dL_go_66 ?_
      obtain ⟨hb14, hf⟩ := hfg hf
      refine g_iald X (q0 := 6) (f := w.2 6) dL_go_67 rfl hb14 ?_
      obtain ⟨hb15, hf⟩ := hfg hf
      refine g_iast X (q0 := 6) (f := w.2 6) dL_go_68 rfl hb15 (awR_6 ad cI _ _ _) ?_
      refine g_iinc X (i := 8) (v := 1) dL_go_69 rfl (by decide) (by decide) rfl ?_
      refine g_goto X dL_go_72 (tgt := 48) (by decide) ?_
      exact ih hf k
    · obtain rfl := Option.some.inj hf
      refine g_sub (losub (lo' := [some (.ref (ad 0)), some (.ref (ad 1)), some (.ref (ad 2)), none, none, some (.ref (ad 6)), none, some (.int x7), none]) ⟨rfl, rfl, rfl, rfl, rfl, trivial⟩) ?_
      exact k
set_option maxRecDepth 100000 in
set_option maxHeartbeats 4000000 in
theorem gl_L_go_L81 {p : Program} {l : Launch} {e : Env} {s : State} {m : MethodId} {args : Array Value} {below : List Frame} {meth : Method} {c : Code} {D : va_G} {A : Nat → Prop} {cI : ClassId × ClassId} {ad : Nat → Nat} {Q : State → Prop} {o : St} (X : gX p s m args meth c cL_go 9 RL D cI) (n : Nat) : ∀ {x7 x8 : Int32} {w : St}, f_L_go_L81 n x7 x8 w = some o → G p l e rm_L_go s m args below meth c D A 9 Q (wR ad cI) 0 0 111 [none, none, some (.ref (ad 2)), none, none, none, none, some (.int x7), none] [] o → G p l e rm_L_go s m args below meth c D A 9 Q (wR ad cI) 0 0 81 [some (.ref (ad 0)), some (.ref (ad 1)), some (.ref (ad 2)), none, none, some (.ref (ad 6)), none, some (.int x7), some (.int x8)] [] w := by
  induction n with
  | zero => intro x7 x8 w hf; cases hf
  | succ n ih =>
    intro x7 x8 w hf k
    rw [f_L_go_L81] at hf
    refine g_iload X dL_go_81 rfl ?_
    refine g_iconst X dL_go_83 (v := 3) (by decide) ?_
    refine g_iload X dL_go_84 rfl ?_
    refine g_imul X dL_go_86 ?_
    refine g_iconst X dL_go_87 (v := 3) (by decide) ?_
    refine g_iadd X dL_go_88 ?_
    refine g_icmp_ge X dL_go_89 (tgt := 111) (by decide) hf (fun c18 hf => ?_) (fun c18 hf => ?_)
    · refine g_aload_n X (i := 0) dL_go_92 rfl rfl ?_
      refine g_aload_n X (i := 2) dL_go_93 rfl rfl ?_
      refine g_aload X dL_go_94 rfl ?_
      refine g_aload_n X (i := 1) dL_go_96 rfl rfl ?_
      refine g_iload X dL_go_97 rfl ?_
      obtain ⟨o19, h20, hf⟩ := hfb hf
      refine g_Si X (As := [.ref (ad 1), .int x8]) (rest := [.ref (ad 6), .ref (ad 2), .ref (ad 0)]) (c_L_at h20) dL_go_99 ml_L_9 yv_L_at rfl rfl ⟨Nat.le_of_ble_eq_true rfl, Nat.le_of_ble_eq_true rfl⟩ ⟨rfl, rfl⟩ (Nat.le_of_ble_eq_true rfl) ⟨Nat.le_of_ble_eq_true rfl, Nat.le_of_ble_eq_true rfl⟩ ?_
      obtain ⟨o21, h22, hf⟩ := hfb hf
      refine g_Sv X (As := [.ref (ad 0), .ref (ad 2), .ref (ad 6), .int o19.1]) (rest := []) (c_L_shade h22) dL_go_102 ml_L_23 yv_L_shade rfl rfl ⟨Nat.le_of_ble_eq_true rfl, Nat.le_of_ble_eq_true rfl⟩ ⟨rfl, rfl⟩ (Nat.le_of_ble_eq_true rfl) ⟨Nat.le_of_ble_eq_true rfl, Nat.le_of_ble_eq_true rfl⟩ ?_
      refine g_iinc X (i := 8) (v := 1) dL_go_105 rfl (by decide) (by decide) rfl ?_
      refine g_goto X dL_go_108 (tgt := 81) (by decide) ?_
      exact ih hf k
    · obtain rfl := Option.some.inj hf
      refine g_sub (losub (lo' := [none, none, some (.ref (ad 2)), none, none, none, none, some (.int x7), none]) ⟨rfl, rfl, trivial⟩) ?_
      exact k
set_option maxRecDepth 100000 in
set_option maxHeartbeats 4000000 in
theorem gl_L_go_L120 {p : Program} {l : Launch} {e : Env} {s : State} {m : MethodId} {args : Array Value} {below : List Frame} {meth : Method} {c : Code} {D : va_G} {A : Nat → Prop} {cI : ClassId × ClassId} {ad : Nat → Nat} {Q : State → Prop} {o : Int32 × St} (X : gX p s m args meth c cL_go 9 RL D cI) (n : Nat) : ∀ {x7 : Int32} {w : St}, f_L_go_L120 n x7 w = some o → G p l e rm_L_go s m args below meth c D A 9 Q (wR ad cI) 0 0 148 [some (.ref (ad 0)), none, some (.ref (ad 2)), some (.ref (ad 3)), some (.ref (ad 5)), some (.ref (ad 6)), some (.ref (ad 7)), some (.int o.1), none] [] o.2 → G p l e rm_L_go s m args below meth c D A 9 Q (wR ad cI) 0 0 120 [some (.ref (ad 0)), none, some (.ref (ad 2)), some (.ref (ad 3)), some (.ref (ad 5)), some (.ref (ad 6)), some (.ref (ad 7)), some (.int x7), none] [] w := by
  induction n with
  | zero => intro x7 w hf; cases hf
  | succ n ih =>
    intro x7 w hf k
    rw [f_L_go_L120] at hf
    refine g_iload X dL_go_120 rfl ?_
    refine g_bipush X dL_go_122 (v := 24) (by decide) ?_
    refine g_icmp_ge X dL_go_124 (tgt := 148) (by decide) hf (fun c26 hf => ?_) (fun c26 hf => ?_)
    · refine g_aload_n X (i := 2) dL_go_127 rfl rfl ?_
      refine g_iload X dL_go_128 rfl ?_
      obtain ⟨hb27, hf⟩ := hfg hf
      refine g_iald X (q0 := 2) (f := w.2 2) dL_go_130 rfl hb27 ?_
      refine g_if_ne X dL_go_131 (tgt := 142) (by decide) hf (fun c28 hf => ?_) (fun c28 hf => ?_)
      · refine g_aload_n X (i := 3) dL_go_134 rfl rfl ?_
        refine g_iload X dL_go_135 rfl ?_
        obtain ⟨hb29, hf⟩ := hfg hf
        refine g_iald X (q0 := 3) (f := w.2 3) dL_go_137 rfl hb29 ?_
        refine g_iconst X dL_go_138 (v := 1) (by decide) ?_
        refine g_icmp_eq X dL_go_139 (tgt := 148) (by decide) hf (fun c30 hf => ?_) (fun c30 hf => ?_)
        · obtain rfl := Option.some.inj hf
          exact k
        · refine g_iinc X (i := 7) (v := 1) dL_go_142 rfl (by decide) (by decide) rfl ?_
          refine g_goto X dL_go_145 (tgt := 120) (by decide) ?_
          exact ih hf k
      · refine g_iinc X (i := 7) (v := 1) dL_go_142 rfl (by decide) (by decide) rfl ?_
        refine g_goto X dL_go_145 (tgt := 120) (by decide) ?_
        exact ih hf k
    · obtain rfl := Option.some.inj hf
      exact k
set_option maxRecDepth 100000 in
set_option maxHeartbeats 4000000 in
theorem gl_L_go_L165 {p : Program} {l : Launch} {e : Env} {s : State} {m : MethodId} {args : Array Value} {below : List Frame} {meth : Method} {c : Code} {D : va_G} {A : Nat → Prop} {cI : ClassId × ClassId} {ad : Nat → Nat} {Q : State → Prop} {o : St} (X : gX p s m args meth c cL_go 9 RL D cI) (n : Nat) : ∀ {x8 : Int32} {w : St}, f_L_go_L165 n x8 w = some o → G p l e rm_L_go s m args below meth c D A 9 Q (wR ad cI) 0 0 210 [some (.ref (ad 0)), none, none, none, none, none, none, none, none] [] o → G p l e rm_L_go s m args below meth c D A 9 Q (wR ad cI) 0 0 165 [some (.ref (ad 0)), none, some (.ref (ad 2)), none, none, none, some (.ref (ad 7)), none, some (.int x8)] [] w := by
  induction n with
  | zero => intro x8 w hf; cases hf
  | succ n ih =>
    intro x8 w hf k
    rw [f_L_go_L165] at hf
    refine g_iload X dL_go_165 rfl ?_
    refine g_bipush X dL_go_167 (v := 8) (by decide) ?_
    refine g_icmp_ge X dL_go_169 (tgt := 210) (by decide) hf (fun c35 hf => ?_) (fun c35 hf => ?_)
    · refine g_aload X dL_go_172 rfl ?_
      refine g_iload X dL_go_174 rfl ?_
      refine g_aload X dL_go_176 rfl ?_
      refine g_iload X dL_go_178 rfl ?_
      obtain ⟨hb36, hf⟩ := hfg hf
      refine g_iald X (q0 := 7) (f := w.2 7) dL_go_180 rfl hb36 ?_
      obtain ⟨o38, h39, hf⟩ := hfb hf
      refine g_jn (M := 203) (lo2 := [some (.ref (ad 0)), none, some (.ref (ad 2)), none, none, none, some (.ref (ad 7)), none, some (.int x8)]) (st2 := [.int o38, .int x8, .ref (ad 7)]) (w2 := w) ?_ (fun K40 => ?_)
      · obtain ⟨hb46, hf⟩ := hfg hf
        refine g_iast X (q0 := 7) (f := w.2 7) dL_go_203 rfl hb46 (awR_7 ad cI _ _ _) ?_
        refine g_iinc X (i := 8) (v := 1) dL_go_204 rfl (by decide) (by decide) rfl ?_
        refine g_goto X dL_go_207 (tgt := 165) (by decide) ?_
        exact ih hf k
      · have hf := h39
        refine g_if_lt X dL_go_181 (tgt := 198) (by decide) hf (fun c37 hf => ?_) (fun c37 hf => ?_)
        · refine g_aload X dL_go_198 rfl ?_
          refine g_iload X dL_go_200 rfl ?_
          obtain ⟨hb41, hf⟩ := hfg hf
          refine g_iald X (q0 := 7) (f := w.2 7) dL_go_202 rfl hb41 ?_
          obtain rfl := Option.some.inj hf
          exact K40
        · refine g_aload_n X (i := 2) dL_go_184 rfl rfl ?_
          refine g_aload X dL_go_185 rfl ?_
          refine g_iload X dL_go_187 rfl ?_
          obtain ⟨hb42, hf⟩ := hfg hf
          refine g_iald X (q0 := 7) (f := w.2 7) dL_go_189 rfl hb42 ?_
          obtain ⟨hb43, hf⟩ := hfg hf
          refine g_iald X (q0 := 2) (f := w.2 2) dL_go_190 rfl hb43 ?_
          refine g_if_ne X dL_go_191 (tgt := 198) (by decide) hf (fun c44 hf => ?_) (fun c44 hf => ?_)
          · refine g_iconst X dL_go_194 (v := (-1)) (by decide) ?_
            refine g_goto X dL_go_195 (tgt := 203) (by decide) ?_
            obtain rfl := Option.some.inj hf
            exact K40
          · refine g_aload X dL_go_198 rfl ?_
            refine g_iload X dL_go_200 rfl ?_
            obtain ⟨hb45, hf⟩ := hfg hf
            refine g_iald X (q0 := 7) (f := w.2 7) dL_go_202 rfl hb45 ?_
            obtain rfl := Option.some.inj hf
            exact K40
    · obtain rfl := Option.some.inj hf
      refine g_sub (losub (lo' := [some (.ref (ad 0)), none, none, none, none, none, none, none, none]) ⟨rfl, trivial⟩) ?_
      exact k
set_option maxRecDepth 100000 in
set_option maxHeartbeats 4000000 in
theorem c_L_go {l : Launch} {D : va_G} {cI : ClassId × ClassId} {A : Nat → Prop} {ad : Nat → Nat} {w : St} {o : Int32 × St} (hf : f_L_go w = some o) : CTv l D cI A yL_go cL_go 9 (none) rm_L_go [.ref (ad 0), .ref (ad 1), .ref (ad 2), .ref (ad 3), .ref (ad 5), .ref (ad 6), .ref (ad 7)] ((wR ad cI) w) ((wR ad cI) o.2)   := by
  refine CTv.of (by decide +kernel) rfl (Nat.le_of_ble_eq_true rfl) ?_
  intro p e s m args below meth c X hr
  have X : gX p s m args meth c cL_go 9 RL D cI := X
  show G _ _ _ _ _ _ _ _ _ _ _ _ _ _ _ _ _ 0 [some (.ref (ad 0)), some (.ref (ad 1)), some (.ref (ad 2)), some (.ref (ad 3)), some (.ref (ad 5)), some (.ref (ad 6)), some (.ref (ad 7)), none, none] [] w
  unfold f_L_go at hf
  refine g_aload_n X (i := 0) dL_go_0 rfl rfl ?_
  refine g_bipush X dL_go_1 (v := 6) (by decide) ?_
  refine g_dup2 X dL_go_3 rfl rfl ?_
  obtain ⟨hb1, hf⟩ := hfg hf
  refine g_iald X (q0 := 0) (f := w.2 0) dL_go_4 rfl hb1 ?_
  refine g_iconst X dL_go_5 (v := 1) (by decide) ?_
  refine g_iadd X dL_go_6 ?_
  obtain ⟨hb2, hf⟩ := hfg hf
  refine g_iast X (q0 := 0) (f := w.2 0) dL_go_7 rfl hb2 (awR_0 ad cI _ _ _) ?_
  refine g_aload_n X (i := 0) dL_go_8 rfl rfl ?_
  refine g_iconst X dL_go_9 (v := 0) (by decide) ?_
  obtain ⟨hb3, hf⟩ := hfg hf
  refine g_iald X (q0 := 0) (f := (sA w 0 6 ((w.2 0 (6 : Int32).toNatClampNeg) + 1)).2 0) dL_go_10 rfl hb3 ?_
  refine g_iconst X dL_go_11 (v := 3) (by decide) ?_
  refine g_icmp_ne X dL_go_12 (tgt := 24) (by decide) hf (fun c4 hf => ?_) (fun c4 hf => ?_)
  · refine g_aload_n X (i := 0) dL_go_15 rfl rfl ?_
    refine g_aload_n X (i := 1) dL_go_16 rfl rfl ?_
    refine g_aload_n X (i := 2) dL_go_17 rfl rfl ?_
    refine g_aload X dL_go_18 rfl ?_
    obtain ⟨o5, h6, hf⟩ := hfb hf
    refine g_Sv X (As := [.ref (ad 0), .ref (ad 1), .ref (ad 2), .ref (ad 7)]) (rest := []) (c_L_sweep h6) dL_go_20 ml_L_35 yv_L_sweep rfl rfl ⟨Nat.le_of_ble_eq_true rfl, Nat.le_of_ble_eq_true rfl⟩ ⟨rfl, rfl⟩ (Nat.le_of_ble_eq_true rfl) ⟨Nat.le_of_ble_eq_true rfl, Nat.le_of_ble_eq_true rfl⟩ ?_
    exact g_vret X hr dL_go_23 hf
  · refine g_aload_n X (i := 0) dL_go_24 rfl rfl ?_
    refine g_bipush X dL_go_25 (v := 10) (by decide) ?_
    obtain ⟨hb7, hf⟩ := hfg hf
    refine g_iald X (q0 := 0) (f := (sA w 0 6 ((w.2 0 (6 : Int32).toNatClampNeg) + 1)).2 0) dL_go_27 rfl hb7 ?_
    refine g_if_le X dL_go_28 (tgt := 117) (by decide) hf (fun c8 hf => ?_) (fun c8 hf => ?_)
    · refine g_aload X dL_go_31 rfl ?_
      refine g_iconst X dL_go_33 (v := 0) (by decide) ?_
      obtain ⟨hb9, hf⟩ := hfg hf
      refine g_iald X (q0 := 6) (f := w.2 6) dL_go_34 rfl hb9 ?_
      refine g_istore X dL_go_35 (by decide) rfl ?_
      refine g_aload_n X (i := 0) dL_go_37 rfl rfl ?_
      refine g_bipush X dL_go_38 (v := 10) (by decide) ?_
      refine g_dup2 X dL_go_40 rfl rfl ?_
      obtain ⟨hb10, hf⟩ := hfg hf
      refine g_iald X (q0 := 0) (f := (sA w 0 6 ((w.2 0 (6 : Int32).toNatClampNeg) + 1)).2 0) dL_go_41 rfl hb10 ?_
      refine g_iconst X dL_go_42 (v := 1) (by decide) ?_
      refine g_isub X dL_go_43 ?_
      obtain ⟨hb11, hf⟩ := hfg hf
      refine g_iast X (q0 := 0) (f := (sA w 0 6 ((w.2 0 (6 : Int32).toNatClampNeg) + 1)).2 0) dL_go_44 rfl hb11 (awR_0 ad cI _ _ _) ?_
      refine g_iconst X dL_go_45 (v := 0) (by decide) ?_
      refine g_istore X dL_go_46 (by decide) rfl ?_
      refine g_sub (losub (lo' := [some (.ref (ad 0)), some (.ref (ad 1)), some (.ref (ad 2)), none, none, some (.ref (ad 6)), none, some (.int (w.2 6 (0 : Int32).toNatClampNeg)), some (.int 0)]) ⟨rfl, rfl, rfl, rfl, rfl, rfl, trivial⟩) ?_
      obtain ⟨o16, h17, hf⟩ := hfb hf
      refine gl_L_go_L48 X BIG h17 ?_
      refine g_iconst X dL_go_75 (v := 3) (by decide) ?_
      refine g_iload X dL_go_76 rfl ?_
      refine g_imul X dL_go_78 ?_
      refine g_istore X dL_go_79 (by decide) rfl ?_
      obtain ⟨o23, h24, hf⟩ := hfb hf
      refine gl_L_go_L81 X BIG h24 ?_
      refine g_aload_n X (i := 2) dL_go_111 rfl rfl ?_
      refine g_iload X dL_go_112 rfl ?_
      refine g_iconst X dL_go_114 (v := 2) (by decide) ?_
      obtain ⟨hb25, hf⟩ := hfg hf
      refine g_iast X (q0 := 2) (f := o23.2 2) dL_go_115 rfl hb25 (awR_2 ad cI _ _ _) ?_
      exact g_vret X hr dL_go_116 hf
    · refine g_iconst X dL_go_117 (v := 0) (by decide) ?_
      refine g_istore X dL_go_118 (by decide) rfl ?_
      refine g_sub (losub (lo' := [some (.ref (ad 0)), none, some (.ref (ad 2)), some (.ref (ad 3)), some (.ref (ad 5)), some (.ref (ad 6)), some (.ref (ad 7)), some (.int 0), none]) ⟨rfl, rfl, rfl, rfl, rfl, rfl, rfl, trivial⟩) ?_
      obtain ⟨o31, h32, hf⟩ := hfb hf
      refine gl_L_go_L120 X BIG h32 ?_
      refine g_aload_n X (i := 0) dL_go_148 rfl rfl ?_
      refine g_iconst X dL_go_149 (v := 0) (by decide) ?_
      obtain ⟨hb33, hf⟩ := hfg hf
      refine g_iald X (q0 := 0) (f := o31.2.2 0) dL_go_150 rfl hb33 ?_
      refine g_iconst X dL_go_151 (v := 1) (by decide) ?_
      refine g_icmp_eq X dL_go_152 (tgt := 162) (by decide) hf (fun c34 hf => ?_) (fun c34 hf => ?_)
      · refine g_iconst X dL_go_162 (v := 4) (by decide) ?_
        refine g_istore X dL_go_163 (by decide) rfl ?_
        refine g_sub (losub (lo' := [some (.ref (ad 0)), none, some (.ref (ad 2)), none, none, none, some (.ref (ad 7)), none, some (.int 4)]) ⟨rfl, rfl, rfl, rfl, trivial⟩) ?_
        obtain ⟨o47, h48, hf⟩ := hfb hf
        refine gl_L_go_L165 X BIG h48 ?_
        refine g_aload_n X (i := 0) dL_go_210 rfl rfl ?_
        refine g_iconst X dL_go_211 (v := 0) (by decide) ?_
        refine g_dup2 X dL_go_212 rfl rfl ?_
        obtain ⟨hb49, hf⟩ := hfg hf
        refine g_iald X (q0 := 0) (f := o47.2 0) dL_go_213 rfl hb49 ?_
        refine g_iconst X dL_go_214 (v := 1) (by decide) ?_
        refine g_iadd X dL_go_215 ?_
        obtain ⟨hb50, hf⟩ := hfg hf
        refine g_iast X (q0 := 0) (f := o47.2 0) dL_go_216 rfl hb50 (awR_0 ad cI _ _ _) ?_
        refine g_aload_n X (i := 0) dL_go_217 rfl rfl ?_
        refine g_iconst X dL_go_218 (v := 1) (by decide) ?_
        refine g_iconst X dL_go_219 (v := 0) (by decide) ?_
        obtain ⟨hb51, hf⟩ := hfg hf
        refine g_iast X (q0 := 0) (f := (sA o47 0 0 ((o47.2 0 (0 : Int32).toNatClampNeg) + 1)).2 0) dL_go_220 rfl hb51 (awR_0 ad cI _ _ _) ?_
        exact g_vret X hr dL_go_221 hf
      · refine g_iload X dL_go_155 rfl ?_
        refine g_bipush X dL_go_157 (v := 24) (by decide) ?_
        refine g_icmp_ne X dL_go_159 (tgt := 222) (by decide) hf (fun c52 hf => ?_) (fun c52 hf => ?_)
        · refine g_iconst X dL_go_162 (v := 4) (by decide) ?_
          refine g_istore X dL_go_163 (by decide) rfl ?_
          refine g_sub (losub (lo' := [some (.ref (ad 0)), none, some (.ref (ad 2)), none, none, none, some (.ref (ad 7)), none, some (.int 4)]) ⟨rfl, rfl, rfl, rfl, trivial⟩) ?_
          obtain ⟨o53, h54, hf⟩ := hfb hf
          refine gl_L_go_L165 X BIG h54 ?_
          refine g_aload_n X (i := 0) dL_go_210 rfl rfl ?_
          refine g_iconst X dL_go_211 (v := 0) (by decide) ?_
          refine g_dup2 X dL_go_212 rfl rfl ?_
          obtain ⟨hb55, hf⟩ := hfg hf
          refine g_iald X (q0 := 0) (f := o53.2 0) dL_go_213 rfl hb55 ?_
          refine g_iconst X dL_go_214 (v := 1) (by decide) ?_
          refine g_iadd X dL_go_215 ?_
          obtain ⟨hb56, hf⟩ := hfg hf
          refine g_iast X (q0 := 0) (f := o53.2 0) dL_go_216 rfl hb56 (awR_0 ad cI _ _ _) ?_
          refine g_aload_n X (i := 0) dL_go_217 rfl rfl ?_
          refine g_iconst X dL_go_218 (v := 1) (by decide) ?_
          refine g_iconst X dL_go_219 (v := 0) (by decide) ?_
          obtain ⟨hb57, hf⟩ := hfg hf
          refine g_iast X (q0 := 0) (f := (sA o53 0 0 ((o53.2 0 (0 : Int32).toNatClampNeg) + 1)).2 0) dL_go_220 rfl hb57 (awR_0 ad cI _ _ _) ?_
          exact g_vret X hr dL_go_221 hf
        · refine g_aload_n X (i := 3) dL_go_222 rfl rfl ?_
          refine g_iload X dL_go_223 rfl ?_
          refine g_iconst X dL_go_225 (v := 0) (by decide) ?_
          obtain ⟨hb58, hf⟩ := hfg hf
          refine g_iast X (q0 := 3) (f := o31.2.2 3) dL_go_226 rfl hb58 (awR_3 ad cI _ _ _) ?_
          refine g_aload X dL_go_227 rfl ?_
          refine g_aload_n X (i := 0) dL_go_229 rfl rfl ?_
          refine g_bipush X dL_go_230 (v := 9) (by decide) ?_
          obtain ⟨hb59, hf⟩ := hfg hf
          refine g_iald X (q0 := 0) (f := o31.2.2 0) dL_go_232 rfl hb59 ?_
          refine g_iload X dL_go_233 rfl ?_
          obtain ⟨hb60, hf⟩ := hfg hf
          refine g_iast X (q0 := 5) (f := o31.2.2 5) dL_go_235 rfl hb60 (awR_5 ad cI _ _ _) ?_
          refine g_aload_n X (i := 0) dL_go_236 rfl rfl ?_
          refine g_bipush X dL_go_237 (v := 9) (by decide) ?_
          refine g_dup2 X dL_go_239 rfl rfl ?_
          obtain ⟨hb61, hf⟩ := hfg hf
          refine g_iald X (q0 := 0) (f := o31.2.2 0) dL_go_240 rfl hb61 ?_
          refine g_iconst X dL_go_241 (v := 1) (by decide) ?_
          refine g_iadd X dL_go_242 ?_
          obtain ⟨hb62, hf⟩ := hfg hf
          refine g_iast X (q0 := 0) (f := o31.2.2 0) dL_go_243 rfl hb62 (awR_0 ad cI _ _ _) ?_
          refine g_aload_n X (i := 0) dL_go_244 rfl rfl ?_
          refine g_aload_n X (i := 2) dL_go_245 rfl rfl ?_
          refine g_aload X dL_go_246 rfl ?_
          refine g_iload X dL_go_248 rfl ?_
          obtain ⟨o63, h64, hf⟩ := hfb hf
          refine g_Sv X (As := [.ref (ad 0), .ref (ad 2), .ref (ad 6), .int o31.1]) (rest := []) (c_L_shade h64) dL_go_250 ml_L_23 yv_L_shade rfl rfl ⟨Nat.le_of_ble_eq_true rfl, Nat.le_of_ble_eq_true rfl⟩ ⟨rfl, rfl⟩ (Nat.le_of_ble_eq_true rfl) ⟨Nat.le_of_ble_eq_true rfl, Nat.le_of_ble_eq_true rfl⟩ ?_
          exact g_vret X hr dL_go_253 hf
