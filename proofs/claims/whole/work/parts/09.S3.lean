def f_X0_append (x1 : Int32) (w : St) : Option (Int32 × St) := (if x1 < 32 then some ((-11), w) else (if (126 : Int32) < x1 then some ((-11), w) else (if (w.1 0) < 60 then if ib (w.1 0) 60 then some ((w.1 0) + 1, sR (sA w 0 (w.1 0) x1) 0 ((w.1 0) + 1)) else none else some ((-13), w))))
set_option maxRecDepth 100000 in
set_option maxHeartbeats 4000000 in
theorem c_X0_append {l : Launch} {D : va_G} {cI : ClassId × ClassId} {A : Nat → Prop} {ad : Nat → Nat} {x1 : Int32} {w : St} {o : Int32 × St} (hf : f_X0_append x1 w = some o) : CTi l D cI A yX0_append cX0_append 2 (some .int) rm_X0_append [.ref (ad 0), .int x1] ((wS ad cI) w) o.1 ((wS ad cI) o.2)   := by
  refine CTi.of (by decide +kernel) rfl (Nat.le_of_ble_eq_true rfl) ?_
  intro p e s m args below meth c X hr
  have X : gX p s m args meth c cX0_append 2 RX0 D cI := X
  show G _ _ _ _ _ _ _ _ _ _ _ _ _ _ _ _ _ 0 [some (.ref (ad 0)), some (.int x1)] [] w
  unfold f_X0_append at hf
  refine g_iload_n X (i := 1) dX0_append_0 rfl rfl ?_
  refine g_bipush X dX0_append_1 (v := 32) (by decide) ?_
  refine g_icmp_lt X dX0_append_3 (tgt := 12) (by decide) hf (fun c1 hf => ?_) (fun c1 hf => ?_)
  · refine g_bipush X dX0_append_12 (v := (-11)) (by decide) ?_
    exact g_iret X hr dX0_append_14 hf
  · refine g_iload_n X (i := 1) dX0_append_6 rfl rfl ?_
    refine g_bipush X dX0_append_7 (v := 126) (by decide) ?_
    refine g_icmp_le X dX0_append_9 (tgt := 15) (by decide) hf (fun c2 hf => ?_) (fun c2 hf => ?_)
    · refine g_bipush X dX0_append_12 (v := (-11)) (by decide) ?_
      exact g_iret X hr dX0_append_14 hf
    · refine g_aload_n X (i := 0) dX0_append_15 rfl rfl ?_
      refine g_get X (q0 := 0) (v := .int (w.1 0)) 1 dX0_append_16 gC_X0 rfl rfl (by decide) fl_X0_15 rfl rfl ?_
      refine g_bipush X dX0_append_19 (v := 60) (by decide) ?_
      refine g_icmp_lt X dX0_append_21 (tgt := 27) (by decide) hf (fun c3 hf => ?_) (fun c3 hf => ?_)
      · refine g_aload_n X (i := 0) dX0_append_27 rfl rfl ?_
        refine g_get X (q0 := 0) (v := .ref (ad 1)) 0 dX0_append_28 gC_X0 rfl rfl (by decide) fl_X0_9 rfl rfl ?_
        refine g_aload_n X (i := 0) dX0_append_31 rfl rfl ?_
        refine g_get X (q0 := 0) (v := .int (w.1 0)) 1 dX0_append_32 gC_X0 rfl rfl (by decide) fl_X0_15 rfl rfl ?_
        refine g_iload_n X (i := 1) dX0_append_35 rfl rfl ?_
        obtain ⟨hb4, hf⟩ := hfg hf
        refine g_iast X (q0 := 1) (f := w.2 0) dX0_append_36 rfl hb4 (awS_0 ad cI _ _ _) ?_
        refine g_aload_n X (i := 0) dX0_append_37 rfl rfl ?_
        refine g_dup X dX0_append_38 rfl ?_
        refine g_get X (q0 := 0) (v := .int (w.1 0)) 1 dX0_append_39 gC_X0 rfl rfl (by decide) fl_X0_15 rfl rfl ?_
        refine g_iconst X dX0_append_42 (v := 1) (by decide) ?_
        refine g_iadd X dX0_append_43 ?_
        refine g_put X (q0 := 0) 1 dX0_append_44 gC_X0 rfl rfl (by decide) fl_X0_15 rfl rfl rfl rfl (Nat.le_of_ble_eq_true rfl) (pwS_0 ad cI _ _) ?_
        refine g_aload_n X (i := 0) dX0_append_47 rfl rfl ?_
        refine g_get X (q0 := 0) (v := .int ((w.1 0) + 1)) 1 dX0_append_48 gC_X0 rfl rfl (by decide) fl_X0_15 rfl rfl ?_
        exact g_iret X hr dX0_append_51 hf
      · refine g_bipush X dX0_append_24 (v := (-13)) (by decide) ?_
        exact g_iret X hr dX0_append_26 hf
def f_X0_empty (w : St) : Option (Int32 × St) := some (w.1 0, sR w 0 0)
set_option maxRecDepth 100000 in
set_option maxHeartbeats 4000000 in
theorem c_X0_empty {l : Launch} {D : va_G} {cI : ClassId × ClassId} {A : Nat → Prop} {ad : Nat → Nat} {w : St} {o : Int32 × St} (hf : f_X0_empty w = some o) : CTi l D cI A yX0_empty cX0_empty 2 (some .int) rm_X0_empty [.ref (ad 0)] ((wS ad cI) w) o.1 ((wS ad cI) o.2)   := by
  refine CTi.of (by decide +kernel) rfl (Nat.le_of_ble_eq_true rfl) ?_
  intro p e s m args below meth c X hr
  have X : gX p s m args meth c cX0_empty 2 RX0 D cI := X
  show G _ _ _ _ _ _ _ _ _ _ _ _ _ _ _ _ _ 0 [some (.ref (ad 0)), none] [] w
  unfold f_X0_empty at hf
  refine g_aload_n X (i := 0) dX0_empty_0 rfl rfl ?_
  refine g_get X (q0 := 0) (v := .int (w.1 0)) 1 dX0_empty_1 gC_X0 rfl rfl (by decide) fl_X0_15 rfl rfl ?_
  refine g_istore_n X (i := 1) dX0_empty_4 rfl (by decide) rfl ?_
  refine g_aload_n X (i := 0) dX0_empty_5 rfl rfl ?_
  refine g_iconst X dX0_empty_6 (v := 0) (by decide) ?_
  refine g_put X (q0 := 0) 1 dX0_empty_7 gC_X0 rfl rfl (by decide) fl_X0_15 rfl rfl rfl rfl (Nat.le_of_ble_eq_true rfl) (pwS_0 ad cI _ _) ?_
  refine g_iload_n X (i := 1) dX0_empty_10 rfl rfl ?_
  exact g_iret X hr dX0_empty_11 hf
def f_X0_tellFault (x1 : Int32) (w : St) : Option (Int32 × St) := (if (w.1 8) = 0 then some ((-14), w) else (if x1 = 2 then (if (w.1 8) = 1 then some ((-14), w) else (if x1 = 0 then some (w.1 7, w) else (if x1 = 1 then some (w.1 8, w) else some (w.1 9, w)))) else (if x1 = 0 then some (w.1 7, w) else (if x1 = 1 then some (w.1 8, w) else some (w.1 9, w)))))
set_option maxRecDepth 100000 in
set_option maxHeartbeats 4000000 in
theorem c_X0_tellFault {l : Launch} {D : va_G} {cI : ClassId × ClassId} {A : Nat → Prop} {ad : Nat → Nat} {x1 : Int32} {w : St} {o : Int32 × St} (hf : f_X0_tellFault x1 w = some o) : CTi l D cI A yX0_tellFault cX0_tellFault 2 (some .int) rm_X0_tellFault [.ref (ad 0), .int x1] ((wS ad cI) w) o.1 ((wS ad cI) o.2)   := by
  refine CTi.of (by decide +kernel) rfl (Nat.le_of_ble_eq_true rfl) ?_
  intro p e s m args below meth c X hr
  have X : gX p s m args meth c cX0_tellFault 2 RX0 D cI := X
  show G _ _ _ _ _ _ _ _ _ _ _ _ _ _ _ _ _ 0 [some (.ref (ad 0)), some (.int x1)] [] w
  unfold f_X0_tellFault at hf
  refine g_aload_n X (i := 0) dX0_tellFault_0 rfl rfl ?_
  refine g_get X (q0 := 0) (v := .int (w.1 8)) 9 dX0_tellFault_1 gC_X0 rfl rfl (by decide) fl_X0_25 rfl rfl ?_
  refine g_if_eq X dX0_tellFault_4 (tgt := 20) (by decide) hf (fun c1 hf => ?_) (fun c1 hf => ?_)
  · refine g_bipush X dX0_tellFault_20 (v := (-14)) (by decide) ?_
    exact g_iret X hr dX0_tellFault_22 hf
  · refine g_iload_n X (i := 1) dX0_tellFault_7 rfl rfl ?_
    refine g_iconst X dX0_tellFault_8 (v := 2) (by decide) ?_
    refine g_icmp_ne X dX0_tellFault_9 (tgt := 23) (by decide) hf (fun c2 hf => ?_) (fun c2 hf => ?_)
    · refine g_aload_n X (i := 0) dX0_tellFault_12 rfl rfl ?_
      refine g_get X (q0 := 0) (v := .int (w.1 8)) 9 dX0_tellFault_13 gC_X0 rfl rfl (by decide) fl_X0_25 rfl rfl ?_
      refine g_iconst X dX0_tellFault_16 (v := 1) (by decide) ?_
      refine g_icmp_ne X dX0_tellFault_17 (tgt := 23) (by decide) hf (fun c3 hf => ?_) (fun c3 hf => ?_)
      · refine g_bipush X dX0_tellFault_20 (v := (-14)) (by decide) ?_
        exact g_iret X hr dX0_tellFault_22 hf
      · refine g_iload_n X (i := 1) dX0_tellFault_23 rfl rfl ?_
        rcases hfi (q := x1 = 0) hf with ⟨c4, hf⟩ | ⟨c4, hf⟩
        · refine g_lookup X (off := 28) dX0_tellFault_24 rfl (by first | (rw [c4]; done) | (rw [c4]; rfl)) (tgt := 52) (by decide) ?_
          refine g_aload_n X (i := 0) dX0_tellFault_52 rfl rfl ?_
          refine g_get X (q0 := 0) (v := .int (w.1 7)) 8 dX0_tellFault_53 gC_X0 rfl rfl (by decide) fl_X0_28 rfl rfl ?_
          exact g_iret X hr dX0_tellFault_56 hf
        rcases hfi (q := x1 = 1) hf with ⟨c5, hf⟩ | ⟨c5, hf⟩
        · refine g_lookup X (off := 33) dX0_tellFault_24 rfl (by first | (rw [c5]; done) | (rw [c5]; rfl)) (tgt := 57) (by decide) ?_
          refine g_aload_n X (i := 0) dX0_tellFault_57 rfl rfl ?_
          refine g_get X (q0 := 0) (v := .int (w.1 8)) 9 dX0_tellFault_58 gC_X0 rfl rfl (by decide) fl_X0_25 rfl rfl ?_
          exact g_iret X hr dX0_tellFault_61 hf
        refine g_lookup X (off := 38) dX0_tellFault_24 rfl (show Op.lookupswitch.offset [(0, 28), (1, 33)] (38) (x1).toInt = 38 by first | (rw [lv_osw c4 (by decide), lv_osw c5 (by decide)]; done) | (rw [lv_osw c4 (by decide), lv_osw c5 (by decide)]; rfl)) (tgt := 62) (by decide) ?_
        refine g_aload_n X (i := 0) dX0_tellFault_62 rfl rfl ?_
        refine g_get X (q0 := 0) (v := .int (w.1 9)) 10 dX0_tellFault_63 gC_X0 rfl rfl (by decide) fl_X0_47 rfl rfl ?_
        exact g_iret X hr dX0_tellFault_66 hf
    · refine g_iload_n X (i := 1) dX0_tellFault_23 rfl rfl ?_
      rcases hfi (q := x1 = 0) hf with ⟨c6, hf⟩ | ⟨c6, hf⟩
      · refine g_lookup X (off := 28) dX0_tellFault_24 rfl (by first | (rw [c6]; done) | (rw [c6]; rfl)) (tgt := 52) (by decide) ?_
        refine g_aload_n X (i := 0) dX0_tellFault_52 rfl rfl ?_
        refine g_get X (q0 := 0) (v := .int (w.1 7)) 8 dX0_tellFault_53 gC_X0 rfl rfl (by decide) fl_X0_28 rfl rfl ?_
        exact g_iret X hr dX0_tellFault_56 hf
      rcases hfi (q := x1 = 1) hf with ⟨c7, hf⟩ | ⟨c7, hf⟩
      · refine g_lookup X (off := 33) dX0_tellFault_24 rfl (by first | (rw [c7]; done) | (rw [c7]; rfl)) (tgt := 57) (by decide) ?_
        refine g_aload_n X (i := 0) dX0_tellFault_57 rfl rfl ?_
        refine g_get X (q0 := 0) (v := .int (w.1 8)) 9 dX0_tellFault_58 gC_X0 rfl rfl (by decide) fl_X0_25 rfl rfl ?_
        exact g_iret X hr dX0_tellFault_61 hf
      refine g_lookup X (off := 38) dX0_tellFault_24 rfl (show Op.lookupswitch.offset [(0, 28), (1, 33)] (38) (x1).toInt = 38 by first | (rw [lv_osw c6 (by decide), lv_osw c7 (by decide)]; done) | (rw [lv_osw c6 (by decide), lv_osw c7 (by decide)]; rfl)) (tgt := 62) (by decide) ?_
      refine g_aload_n X (i := 0) dX0_tellFault_62 rfl rfl ?_
      refine g_get X (q0 := 0) (v := .int (w.1 9)) 10 dX0_tellFault_63 gC_X0 rfl rfl (by decide) fl_X0_47 rfl rfl ?_
      exact g_iret X hr dX0_tellFault_66 hf
def f_X0_signAt (x1 : Int32) (w : St) : Option (Int32 × St) := (if x1 < 0 then some (0, w) else (if x1 < (w.1 0) then (if x1 < 60 then if ib x1 60 then some (w.2 0 x1.toNatClampNeg, w) else none else some (0, w)) else some (0, w)))
set_option maxRecDepth 100000 in
set_option maxHeartbeats 4000000 in
theorem c_X0_signAt {l : Launch} {D : va_G} {cI : ClassId × ClassId} {A : Nat → Prop} {ad : Nat → Nat} {x1 : Int32} {w : St} {o : Int32 × St} (hf : f_X0_signAt x1 w = some o) : CTi l D cI A yX0_signAt cX0_signAt 2 (some .int) rm_X0_signAt [.ref (ad 0), .int x1] ((wS ad cI) w) o.1 ((wS ad cI) o.2)   := by
  refine CTi.of (by decide +kernel) rfl (Nat.le_of_ble_eq_true rfl) ?_
  intro p e s m args below meth c X hr
  have X : gX p s m args meth c cX0_signAt 2 RX0 D cI := X
  show G _ _ _ _ _ _ _ _ _ _ _ _ _ _ _ _ _ 0 [some (.ref (ad 0)), some (.int x1)] [] w
  unfold f_X0_signAt at hf
  refine g_iload_n X (i := 1) dX0_signAt_0 rfl rfl ?_
  refine g_if_lt X dX0_signAt_1 (tgt := 27) (by decide) hf (fun c1 hf => ?_) (fun c1 hf => ?_)
  · refine g_iconst X dX0_signAt_27 (v := 0) (by decide) ?_
    exact g_iret X hr dX0_signAt_28 hf
  · refine g_iload_n X (i := 1) dX0_signAt_4 rfl rfl ?_
    refine g_aload_n X (i := 0) dX0_signAt_5 rfl rfl ?_
    refine g_get X (q0 := 0) (v := .int (w.1 0)) 1 dX0_signAt_6 gC_X0 rfl rfl (by decide) fl_X0_15 rfl rfl ?_
    refine g_icmp_ge X dX0_signAt_9 (tgt := 27) (by decide) hf (fun c2 hf => ?_) (fun c2 hf => ?_)
    · refine g_iload_n X (i := 1) dX0_signAt_12 rfl rfl ?_
      refine g_bipush X dX0_signAt_13 (v := 60) (by decide) ?_
      refine g_icmp_ge X dX0_signAt_15 (tgt := 27) (by decide) hf (fun c3 hf => ?_) (fun c3 hf => ?_)
      · refine g_aload_n X (i := 0) dX0_signAt_18 rfl rfl ?_
        refine g_get X (q0 := 0) (v := .ref (ad 1)) 0 dX0_signAt_19 gC_X0 rfl rfl (by decide) fl_X0_9 rfl rfl ?_
        refine g_iload_n X (i := 1) dX0_signAt_22 rfl rfl ?_
        obtain ⟨hb4, hf⟩ := hfg hf
        refine g_iald X (q0 := 1) (f := w.2 0) dX0_signAt_23 rfl hb4 ?_
        refine g_goto X dX0_signAt_24 (tgt := 28) (by decide) ?_
        exact g_iret X hr dX0_signAt_28 hf
      · refine g_iconst X dX0_signAt_27 (v := 0) (by decide) ?_
        exact g_iret X hr dX0_signAt_28 hf
    · refine g_iconst X dX0_signAt_27 (v := 0) (by decide) ?_
      exact g_iret X hr dX0_signAt_28 hf
def f_X0_read (x1 : Int32) (w : St) : Option (Int32 × St) := (f_X0_signAt (w.1 1) w).bind fun o1 => (if o1.1 = x1 then some (1, sR o1.2 1 ((o1.2.1 1) + 1)) else some (0, o1.2))
set_option maxRecDepth 100000 in
set_option maxHeartbeats 4000000 in
theorem c_X0_read {l : Launch} {D : va_G} {cI : ClassId × ClassId} {A : Nat → Prop} {ad : Nat → Nat} {x1 : Int32} {w : St} {o : Int32 × St} (hf : f_X0_read x1 w = some o) : CTi l D cI A yX0_read cX0_read 2 (some .boolean) rm_X0_read [.ref (ad 0), .int x1] ((wS ad cI) w) o.1 ((wS ad cI) o.2)   := by
  refine CTi.of (by decide +kernel) rfl (Nat.le_of_ble_eq_true rfl) ?_
  intro p e s m args below meth c X hr
  have X : gX p s m args meth c cX0_read 2 RX0 D cI := X
  show G _ _ _ _ _ _ _ _ _ _ _ _ _ _ _ _ _ 0 [some (.ref (ad 0)), some (.int x1)] [] w
  unfold f_X0_read at hf
  refine g_aload_n X (i := 0) dX0_read_0 rfl rfl ?_
  refine g_aload_n X (i := 0) dX0_read_1 rfl rfl ?_
  refine g_get X (q0 := 0) (v := .int (w.1 1)) 2 dX0_read_2 gC_X0 rfl rfl (by decide) fl_X0_19 rfl rfl ?_
  obtain ⟨o1, h2, hf⟩ := hfb hf
  refine g_Vi X (q0 := 0) (As := [.int (w.1 1)]) (rest := []) (c_X0_signAt h2) dX0_read_5 ml_X0_75 yv_X0_signAt rfl rfl rfl rfl ⟨Nat.le_of_ble_eq_true rfl, Nat.le_of_ble_eq_true rfl⟩ ⟨rfl, rfl⟩ (Nat.le_of_ble_eq_true rfl) ⟨Nat.le_of_ble_eq_true rfl, Nat.le_of_ble_eq_true rfl⟩ ?_
  refine g_iload_n X (i := 1) dX0_read_8 rfl rfl ?_
  refine g_icmp_eq X dX0_read_9 (tgt := 14) (by decide) hf (fun c3 hf => ?_) (fun c3 hf => ?_)
  · refine g_aload_n X (i := 0) dX0_read_14 rfl rfl ?_
    refine g_dup X dX0_read_15 rfl ?_
    refine g_get X (q0 := 0) (v := .int (o1.2.1 1)) 2 dX0_read_16 gC_X0 rfl rfl (by decide) fl_X0_19 rfl rfl ?_
    refine g_iconst X dX0_read_19 (v := 1) (by decide) ?_
    refine g_iadd X dX0_read_20 ?_
    refine g_put X (q0 := 0) 2 dX0_read_21 gC_X0 rfl rfl (by decide) fl_X0_19 rfl rfl rfl rfl (Nat.le_of_ble_eq_true rfl) (pwS_1 ad cI _ _) ?_
    refine g_iconst X dX0_read_24 (v := 1) (by decide) ?_
    exact g_zret X hr dX0_read_25 rfl hf
  · refine g_iconst X dX0_read_12 (v := 0) (by decide) ?_
    exact g_zret X hr dX0_read_13 rfl hf
def f_X0_readNumber_L4 : Nat → Int32 → Int32 → St → Option (Int32 × Int32 × St)
  | 0, _, _, _ => none
  | n + 1, x1, x2, w => (if x2 < 3 then (f_X0_signAt (w.1 1) w).bind fun o2 => (f_X0_isDigit o2.1 o2.2).bind fun o4 => (if o4.1 = 0 then some (x1, x2, o4.2) else (f_X0_signAt (o4.2.1 1) o4.2).bind fun o7 => f_X0_readNumber_L4 n (((x1 * 10) + o7.1) - 48) (x2 + 1) (sR o7.2 1 ((o7.2.1 1) + 1))) else some (x1, x2, w))
def f_X0_readNumber (w : St) : Option (Int32 × St) := (f_X0_readNumber_L4 BIG 0 0 w).bind fun o9 => (if (0 : Int32) < o9.2.1 then some (o9.1, o9.2.2) else some ((-2), o9.2.2))
set_option maxRecDepth 100000 in
set_option maxHeartbeats 4000000 in
theorem gl_X0_readNumber_L4 {p : Program} {l : Launch} {e : Env} {s : State} {m : MethodId} {args : Array Value} {below : List Frame} {meth : Method} {c : Code} {D : va_G} {A : Nat → Prop} {cI : ClassId × ClassId} {ad : Nat → Nat} {Q : State → Prop} {o : Int32 × Int32 × St} (X : gX p s m args meth c cX0_readNumber 3 RX0 D cI) (n : Nat) : ∀ {x1 x2 : Int32} {w : St}, f_X0_readNumber_L4 n x1 x2 w = some o → G p l e rm_X0_readNumber s m args below meth c D A 3 Q (wS ad cI) 0 0 56 [none, some (.int o.1), some (.int o.2.1)] [] o.2.2 → G p l e rm_X0_readNumber s m args below meth c D A 3 Q (wS ad cI) 0 0 4 [some (.ref (ad 0)), some (.int x1), some (.int x2)] [] w := by
  induction n with
  | zero => intro x1 x2 w hf; cases hf
  | succ n ih =>
    intro x1 x2 w hf k
    rw [f_X0_readNumber_L4] at hf
    refine g_iload_n X (i := 2) dX0_readNumber_4 rfl rfl ?_
    refine g_iconst X dX0_readNumber_5 (v := 3) (by decide) ?_
    refine g_icmp_ge X dX0_readNumber_6 (tgt := 56) (by decide) hf (fun c1 hf => ?_) (fun c1 hf => ?_)
    · refine g_aload_n X (i := 0) dX0_readNumber_9 rfl rfl ?_
      refine g_aload_n X (i := 0) dX0_readNumber_10 rfl rfl ?_
      refine g_get X (q0 := 0) (v := .int (w.1 1)) 2 dX0_readNumber_11 gC_X0 rfl rfl (by decide) fl_X0_19 rfl rfl ?_
      obtain ⟨o2, h3, hf⟩ := hfb hf
      refine g_Vi X (q0 := 0) (As := [.int (w.1 1)]) (rest := []) (c_X0_signAt h3) dX0_readNumber_14 ml_X0_75 yv_X0_signAt rfl rfl rfl rfl ⟨Nat.le_of_ble_eq_true rfl, Nat.le_of_ble_eq_true rfl⟩ ⟨rfl, rfl⟩ (Nat.le_of_ble_eq_true rfl) ⟨Nat.le_of_ble_eq_true rfl, Nat.le_of_ble_eq_true rfl⟩ ?_
      obtain ⟨o4, h5, hf⟩ := hfb hf
      refine g_Si X (As := [.int o2.1]) (rest := []) (c_X0_isDigit (wf := (wS ad cI)) h5) dX0_readNumber_17 ml_X0_87 yv_X0_isDigit rfl rfl ⟨Nat.le_of_ble_eq_true rfl, Nat.le_of_ble_eq_true rfl⟩ ⟨rfl, rfl⟩ (Nat.le_of_ble_eq_true rfl) ⟨Nat.le_of_ble_eq_true rfl, Nat.le_of_ble_eq_true rfl⟩ ?_
      refine g_if_eq X dX0_readNumber_20 (tgt := 56) (by decide) hf (fun c6 hf => ?_) (fun c6 hf => ?_)
      · obtain rfl := Option.some.inj hf
        refine g_sub (losub (lo' := [none, some (.int x1), some (.int x2)]) ⟨rfl, rfl, trivial⟩) ?_
        exact k
      · refine g_iload_n X (i := 1) dX0_readNumber_23 rfl rfl ?_
        refine g_bipush X dX0_readNumber_24 (v := 10) (by decide) ?_
        refine g_imul X dX0_readNumber_26 ?_
        refine g_aload_n X (i := 0) dX0_readNumber_27 rfl rfl ?_
        refine g_aload_n X (i := 0) dX0_readNumber_28 rfl rfl ?_
        refine g_get X (q0 := 0) (v := .int (o4.2.1 1)) 2 dX0_readNumber_29 gC_X0 rfl rfl (by decide) fl_X0_19 rfl rfl ?_
        obtain ⟨o7, h8, hf⟩ := hfb hf
        refine g_Vi X (q0 := 0) (As := [.int (o4.2.1 1)]) (rest := [.int (x1 * 10)]) (c_X0_signAt h8) dX0_readNumber_32 ml_X0_75 yv_X0_signAt rfl rfl rfl rfl ⟨Nat.le_of_ble_eq_true rfl, Nat.le_of_ble_eq_true rfl⟩ ⟨rfl, rfl⟩ (Nat.le_of_ble_eq_true rfl) ⟨Nat.le_of_ble_eq_true rfl, Nat.le_of_ble_eq_true rfl⟩ ?_
        refine g_iadd X dX0_readNumber_35 ?_
        refine g_bipush X dX0_readNumber_36 (v := 48) (by decide) ?_
        refine g_isub X dX0_readNumber_38 ?_
        refine g_istore_n X (i := 1) dX0_readNumber_39 rfl (by decide) rfl ?_
        refine g_aload_n X (i := 0) dX0_readNumber_40 rfl rfl ?_
        refine g_dup X dX0_readNumber_41 rfl ?_
        refine g_get X (q0 := 0) (v := .int (o7.2.1 1)) 2 dX0_readNumber_42 gC_X0 rfl rfl (by decide) fl_X0_19 rfl rfl ?_
        refine g_iconst X dX0_readNumber_45 (v := 1) (by decide) ?_
        refine g_iadd X dX0_readNumber_46 ?_
        refine g_put X (q0 := 0) 2 dX0_readNumber_47 gC_X0 rfl rfl (by decide) fl_X0_19 rfl rfl rfl rfl (Nat.le_of_ble_eq_true rfl) (pwS_1 ad cI _ _) ?_
        refine g_iinc X (i := 2) (v := 1) dX0_readNumber_50 rfl (by decide) (by decide) rfl ?_
        refine g_goto X dX0_readNumber_53 (tgt := 4) (by decide) ?_
        exact ih hf k
    · obtain rfl := Option.some.inj hf
      refine g_sub (losub (lo' := [none, some (.int x1), some (.int x2)]) ⟨rfl, rfl, trivial⟩) ?_
      exact k
set_option maxRecDepth 100000 in
set_option maxHeartbeats 4000000 in
theorem c_X0_readNumber {l : Launch} {D : va_G} {cI : ClassId × ClassId} {A : Nat → Prop} {ad : Nat → Nat} {w : St} {o : Int32 × St} (hf : f_X0_readNumber w = some o) : CTi l D cI A yX0_readNumber cX0_readNumber 3 (some .int) rm_X0_readNumber [.ref (ad 0)] ((wS ad cI) w) o.1 ((wS ad cI) o.2)   := by
  refine CTi.of (by decide +kernel) rfl (Nat.le_of_ble_eq_true rfl) ?_
  intro p e s m args below meth c X hr
  have X : gX p s m args meth c cX0_readNumber 3 RX0 D cI := X
  show G _ _ _ _ _ _ _ _ _ _ _ _ _ _ _ _ _ 0 [some (.ref (ad 0)), none, none] [] w
  unfold f_X0_readNumber at hf
  refine g_iconst X dX0_readNumber_0 (v := 0) (by decide) ?_
  refine g_istore_n X (i := 1) dX0_readNumber_1 rfl (by decide) rfl ?_
  refine g_iconst X dX0_readNumber_2 (v := 0) (by decide) ?_
  refine g_istore_n X (i := 2) dX0_readNumber_3 rfl (by decide) rfl ?_
  obtain ⟨o9, h10, hf⟩ := hfb hf
  refine gl_X0_readNumber_L4 X BIG h10 ?_
  refine g_iload_n X (i := 2) dX0_readNumber_56 rfl rfl ?_
  refine g_if_le X dX0_readNumber_57 (tgt := 64) (by decide) hf (fun c11 hf => ?_) (fun c11 hf => ?_)
  · refine g_iload_n X (i := 1) dX0_readNumber_60 rfl rfl ?_
    refine g_goto X dX0_readNumber_61 (tgt := 66) (by decide) ?_
    exact g_iret X hr dX0_readNumber_66 hf
  · refine g_bipush X dX0_readNumber_64 (v := (-2)) (by decide) ?_
    exact g_iret X hr dX0_readNumber_66 hf
def f_X0_readTarget (w : St) : Option (Int32 × St) := (f_X0_read 45 w).bind fun o1 => (if o1.1 = 0 then (f_X0_readNumber o1.2).bind fun o4 => some (o4.1, o4.2) else some ((-1), o1.2))
set_option maxRecDepth 100000 in
set_option maxHeartbeats 4000000 in
theorem c_X0_readTarget {l : Launch} {D : va_G} {cI : ClassId × ClassId} {A : Nat → Prop} {ad : Nat → Nat} {w : St} {o : Int32 × St} (hf : f_X0_readTarget w = some o) : CTi l D cI A yX0_readTarget cX0_readTarget 1 (some .int) rm_X0_readTarget [.ref (ad 0)] ((wS ad cI) w) o.1 ((wS ad cI) o.2)   := by
  refine CTi.of (by decide +kernel) rfl (Nat.le_of_ble_eq_true rfl) ?_
  intro p e s m args below meth c X hr
  have X : gX p s m args meth c cX0_readTarget 1 RX0 D cI := X
  show G _ _ _ _ _ _ _ _ _ _ _ _ _ _ _ _ _ 0 [some (.ref (ad 0))] [] w
  unfold f_X0_readTarget at hf
  refine g_aload_n X (i := 0) dX0_readTarget_0 rfl rfl ?_
  refine g_bipush X dX0_readTarget_1 (v := 45) (by decide) ?_
  obtain ⟨o1, h2, hf⟩ := hfb hf
  refine g_Vi X (q0 := 0) (As := [.int 45]) (rest := []) (c_X0_read h2) dX0_readTarget_3 ml_X0_78 yv_X0_read rfl rfl rfl rfl ⟨Nat.le_of_ble_eq_true rfl, Nat.le_of_ble_eq_true rfl⟩ ⟨rfl, rfl⟩ (Nat.le_of_ble_eq_true rfl) ⟨Nat.le_of_ble_eq_true rfl, Nat.le_of_ble_eq_true rfl⟩ ?_
  refine g_if_eq X dX0_readTarget_6 (tgt := 13) (by decide) hf (fun c3 hf => ?_) (fun c3 hf => ?_)
  · refine g_aload_n X (i := 0) dX0_readTarget_13 rfl rfl ?_
    obtain ⟨o4, h5, hf⟩ := hfb hf
    refine g_Vi X (q0 := 0) (As := []) (rest := []) (c_X0_readNumber h5) dX0_readTarget_14 ml_X0_81 yv_X0_readNumber rfl rfl rfl rfl ⟨Nat.le_of_ble_eq_true rfl, Nat.le_of_ble_eq_true rfl⟩ ⟨rfl, rfl⟩ (Nat.le_of_ble_eq_true rfl) ⟨Nat.le_of_ble_eq_true rfl, Nat.le_of_ble_eq_true rfl⟩ ?_
    exact g_iret X hr dX0_readTarget_17 hf
  · refine g_iconst X dX0_readTarget_9 (v := (-1)) (by decide) ?_
    refine g_goto X dX0_readTarget_10 (tgt := 17) (by decide) ?_
    exact g_iret X hr dX0_readTarget_17 hf
def f_X0_readCommand (w : St) : Option (Int32 × St) := (f_X0_signAt (w.1 1) w).bind fun o1 => (if o1.1 = 98 then (f_X0_read 59 (sR (sR o1.2 2 o1.1) 1 ((o1.2.1 1) + 1))).bind fun o4 => if o4.1 = 0 ∨ o4.1 = 1 then some (o4.1, o4.2) else none else (if o1.1 = 102 then (f_X0_readNumber (sR (sR o1.2 2 o1.1) 1 ((o1.2.1 1) + 1))).bind fun o8 => (f_X0_read 44 (sR o8.2 3 o8.1)).bind fun o10 => (if o10.1 = 0 then (f_X0_read 44 (sR o10.2 4 (-2))).bind fun o13 => (if o13.1 = 0 then (if (o13.2.1 3) = (-2) then some (0, sR o13.2 5 (-2)) else (if (o13.2.1 4) = (-2) then some (0, sR o13.2 5 (-2)) else (if ((-2) : Int32) = (-2) then some (0, sR o13.2 5 (-2)) else (f_X0_read 59 (sR o13.2 5 (-2))).bind fun o19 => (if o19.1 = 0 then some (0, o19.2) else some (1, o19.2))))) else (f_X0_readTarget o13.2).bind fun o22 => (if (o22.2.1 3) = (-2) then some (0, sR o22.2 5 o22.1) else (if (o22.2.1 4) = (-2) then some (0, sR o22.2 5 o22.1) else (if o22.1 = (-2) then some (0, sR o22.2 5 o22.1) else (f_X0_read 59 (sR o22.2 5 o22.1)).bind fun o27 => (if o27.1 = 0 then some (0, o27.2) else some (1, o27.2)))))) else (f_X0_readNumber o10.2).bind fun o30 => (f_X0_read 44 (sR o30.2 4 o30.1)).bind fun o32 => (if o32.1 = 0 then (if (o32.2.1 3) = (-2) then some (0, sR o32.2 5 (-2)) else (if (o32.2.1 4) = (-2) then some (0, sR o32.2 5 (-2)) else (if ((-2) : Int32) = (-2) then some (0, sR o32.2 5 (-2)) else (f_X0_read 59 (sR o32.2 5 (-2))).bind fun o38 => (if o38.1 = 0 then some (0, o38.2) else some (1, o38.2))))) else (f_X0_readTarget o32.2).bind fun o41 => (if (o41.2.1 3) = (-2) then some (0, sR o41.2 5 o41.1) else (if (o41.2.1 4) = (-2) then some (0, sR o41.2 5 o41.1) else (if o41.1 = (-2) then some (0, sR o41.2 5 o41.1) else (f_X0_read 59 (sR o41.2 5 o41.1)).bind fun o46 => (if o46.1 = 0 then some (0, o46.2) else some (1, o46.2))))))) else (if o1.1 = 110 then (f_X0_readNumber (sR (sR o1.2 2 o1.1) 1 ((o1.2.1 1) + 1))).bind fun o50 => (if o50.1 = (-2) then some (0, sR o50.2 3 o50.1) else (f_X0_read 59 (sR o50.2 3 o50.1)).bind fun o53 => (if o53.1 = 0 then some (0, o53.2) else some (1, o53.2))) else (if o1.1 = 114 then (f_X0_readNumber (sR (sR o1.2 2 o1.1) 1 ((o1.2.1 1) + 1))).bind fun o57 => (f_X0_read 44 (sR o57.2 3 o57.1)).bind fun o59 => (if o59.1 = 0 then (if (o59.2.1 3) = (-2) then some (0, sR o59.2 4 (-2)) else (if ((-2) : Int32) = (-2) then some (0, sR o59.2 4 (-2)) else (f_X0_read 59 (sR o59.2 4 (-2))).bind fun o64 => (if o64.1 = 0 then some (0, o64.2) else some (1, o64.2)))) else (f_X0_readTarget o59.2).bind fun o67 => (if (o67.2.1 3) = (-2) then some (0, sR o67.2 4 o67.1) else (if o67.1 = (-2) then some (0, sR o67.2 4 o67.1) else (f_X0_read 59 (sR o67.2 4 o67.1)).bind fun o71 => (if o71.1 = 0 then some (0, o71.2) else some (1, o71.2))))) else (if o1.1 = 115 then (f_X0_readNumber (sR (sR o1.2 2 o1.1) 1 ((o1.2.1 1) + 1))).bind fun o75 => (if o75.1 = (-2) then some (0, sR o75.2 3 o75.1) else (f_X0_read 59 (sR o75.2 3 o75.1)).bind fun o78 => (if o78.1 = 0 then some (0, o78.2) else some (1, o78.2))) else some (0, sR (sR o1.2 2 o1.1) 1 ((o1.2.1 1) + 1)))))))
set_option maxRecDepth 100000 in
set_option maxHeartbeats 4000000 in
theorem c_X0_readCommand {l : Launch} {D : va_G} {cI : ClassId × ClassId} {A : Nat → Prop} {ad : Nat → Nat} {w : St} {o : Int32 × St} (hf : f_X0_readCommand w = some o) : CTi l D cI A yX0_readCommand cX0_readCommand 1 (some .boolean) rm_X0_readCommand [.ref (ad 0)] ((wS ad cI) w) o.1 ((wS ad cI) o.2)   := by
  refine CTi.of (by decide +kernel) rfl (Nat.le_of_ble_eq_true rfl) ?_
  intro p e s m args below meth c X hr
  have X : gX p s m args meth c cX0_readCommand 1 RX0 D cI := X
  show G _ _ _ _ _ _ _ _ _ _ _ _ _ _ _ _ _ 0 [some (.ref (ad 0))] [] w
  unfold f_X0_readCommand at hf
  refine g_aload_n X (i := 0) dX0_readCommand_0 rfl rfl ?_
  refine g_aload_n X (i := 0) dX0_readCommand_1 rfl rfl ?_
  refine g_aload_n X (i := 0) dX0_readCommand_2 rfl rfl ?_
  refine g_get X (q0 := 0) (v := .int (w.1 1)) 2 dX0_readCommand_3 gC_X0 rfl rfl (by decide) fl_X0_19 rfl rfl ?_
  obtain ⟨o1, h2, hf⟩ := hfb hf
  refine g_Vi X (q0 := 0) (As := [.int (w.1 1)]) (rest := [.ref (ad 0)]) (c_X0_signAt h2) dX0_readCommand_6 ml_X0_75 yv_X0_signAt rfl rfl rfl rfl ⟨Nat.le_of_ble_eq_true rfl, Nat.le_of_ble_eq_true rfl⟩ ⟨rfl, rfl⟩ (Nat.le_of_ble_eq_true rfl) ⟨Nat.le_of_ble_eq_true rfl, Nat.le_of_ble_eq_true rfl⟩ ?_
  refine g_put X (q0 := 0) 3 dX0_readCommand_9 gC_X0 rfl rfl (by decide) fl_X0_35 rfl rfl rfl rfl (Nat.le_of_ble_eq_true rfl) (pwS_2 ad cI _ _) ?_
  refine g_aload_n X (i := 0) dX0_readCommand_12 rfl rfl ?_
  refine g_dup X dX0_readCommand_13 rfl ?_
  refine g_get X (q0 := 0) (v := .int (o1.2.1 1)) 2 dX0_readCommand_14 gC_X0 rfl rfl (by decide) fl_X0_19 rfl rfl ?_
  refine g_iconst X dX0_readCommand_17 (v := 1) (by decide) ?_
  refine g_iadd X dX0_readCommand_18 ?_
  refine g_put X (q0 := 0) 2 dX0_readCommand_19 gC_X0 rfl rfl (by decide) fl_X0_19 rfl rfl rfl rfl (Nat.le_of_ble_eq_true rfl) (pwS_1 ad cI _ _) ?_
  refine g_aload_n X (i := 0) dX0_readCommand_22 rfl rfl ?_
  refine g_get X (q0 := 0) (v := .int o1.1) 3 dX0_readCommand_23 gC_X0 rfl rfl (by decide) fl_X0_35 rfl rfl ?_
  rcases hfi (q := o1.1 = 98) hf with ⟨c3, hf⟩ | ⟨c3, hf⟩
  · refine g_lookup X (off := 50) dX0_readCommand_26 rfl (by first | (rw [c3]; done) | (rw [c3]; rfl)) (tgt := 76) (by decide) ?_
    refine g_aload_n X (i := 0) dX0_readCommand_76 rfl rfl ?_
    refine g_bipush X dX0_readCommand_77 (v := 59) (by decide) ?_
    obtain ⟨o4, h5, hf⟩ := hfb hf
    refine g_Vi X (q0 := 0) (As := [.int 59]) (rest := []) (c_X0_read h5) dX0_readCommand_79 ml_X0_78 yv_X0_read rfl rfl rfl rfl ⟨Nat.le_of_ble_eq_true rfl, Nat.le_of_ble_eq_true rfl⟩ ⟨rfl, rfl⟩ (Nat.le_of_ble_eq_true rfl) ⟨Nat.le_of_ble_eq_true rfl, Nat.le_of_ble_eq_true rfl⟩ ?_
    obtain ⟨hz6, hf⟩ := hfg hf
    exact g_zret X hr dX0_readCommand_82 (zb hz6) hf
  rcases hfi (q := o1.1 = 102) hf with ⟨c7, hf⟩ | ⟨c7, hf⟩
  · refine g_lookup X (off := 152) dX0_readCommand_26 rfl (by first | (rw [c7]; done) | (rw [c7]; rfl)) (tgt := 178) (by decide) ?_
    refine g_aload_n X (i := 0) dX0_readCommand_178 rfl rfl ?_
    refine g_aload_n X (i := 0) dX0_readCommand_179 rfl rfl ?_
    obtain ⟨o8, h9, hf⟩ := hfb hf
    refine g_Vi X (q0 := 0) (As := []) (rest := [.ref (ad 0)]) (c_X0_readNumber h9) dX0_readCommand_180 ml_X0_81 yv_X0_readNumber rfl rfl rfl rfl ⟨Nat.le_of_ble_eq_true rfl, Nat.le_of_ble_eq_true rfl⟩ ⟨rfl, rfl⟩ (Nat.le_of_ble_eq_true rfl) ⟨Nat.le_of_ble_eq_true rfl, Nat.le_of_ble_eq_true rfl⟩ ?_
    refine g_put X (q0 := 0) 4 dX0_readCommand_183 gC_X0 rfl rfl (by decide) fl_X0_38 rfl rfl rfl rfl (Nat.le_of_ble_eq_true rfl) (pwS_3 ad cI _ _) ?_
    refine g_aload_n X (i := 0) dX0_readCommand_186 rfl rfl ?_
    refine g_aload_n X (i := 0) dX0_readCommand_187 rfl rfl ?_
    refine g_bipush X dX0_readCommand_188 (v := 44) (by decide) ?_
    obtain ⟨o10, h11, hf⟩ := hfb hf
    refine g_Vi X (q0 := 0) (As := [.int 44]) (rest := [.ref (ad 0)]) (c_X0_read h11) dX0_readCommand_190 ml_X0_78 yv_X0_read rfl rfl rfl rfl ⟨Nat.le_of_ble_eq_true rfl, Nat.le_of_ble_eq_true rfl⟩ ⟨rfl, rfl⟩ (Nat.le_of_ble_eq_true rfl) ⟨Nat.le_of_ble_eq_true rfl, Nat.le_of_ble_eq_true rfl⟩ ?_
    refine g_if_eq X dX0_readCommand_193 (tgt := 203) (by decide) hf (fun c12 hf => ?_) (fun c12 hf => ?_)
    · refine g_bipush X dX0_readCommand_203 (v := (-2)) (by decide) ?_
      refine g_put X (q0 := 0) 5 dX0_readCommand_205 gC_X0 rfl rfl (by decide) fl_X0_50 rfl rfl rfl rfl (Nat.le_of_ble_eq_true rfl) (pwS_4 ad cI _ _) ?_
      refine g_aload_n X (i := 0) dX0_readCommand_208 rfl rfl ?_
      refine g_aload_n X (i := 0) dX0_readCommand_209 rfl rfl ?_
      refine g_bipush X dX0_readCommand_210 (v := 44) (by decide) ?_
      obtain ⟨o13, h14, hf⟩ := hfb hf
      refine g_Vi X (q0 := 0) (As := [.int 44]) (rest := [.ref (ad 0)]) (c_X0_read h14) dX0_readCommand_212 ml_X0_78 yv_X0_read rfl rfl rfl rfl ⟨Nat.le_of_ble_eq_true rfl, Nat.le_of_ble_eq_true rfl⟩ ⟨rfl, rfl⟩ (Nat.le_of_ble_eq_true rfl) ⟨Nat.le_of_ble_eq_true rfl, Nat.le_of_ble_eq_true rfl⟩ ?_
      refine g_if_eq X dX0_readCommand_215 (tgt := 225) (by decide) hf (fun c15 hf => ?_) (fun c15 hf => ?_)
      · refine g_bipush X dX0_readCommand_225 (v := (-2)) (by decide) ?_
        refine g_put X (q0 := 0) 6 dX0_readCommand_227 gC_X0 rfl rfl (by decide) fl_X0_53 rfl rfl rfl rfl (Nat.le_of_ble_eq_true rfl) (pwS_5 ad cI _ _) ?_
        refine g_aload_n X (i := 0) dX0_readCommand_230 rfl rfl ?_
        refine g_get X (q0 := 0) (v := .int (o13.2.1 3)) 4 dX0_readCommand_231 gC_X0 rfl rfl (by decide) fl_X0_38 rfl rfl ?_
        refine g_bipush X dX0_readCommand_234 (v := (-2)) (by decide) ?_
        refine g_icmp_eq X dX0_readCommand_236 (tgt := 270) (by decide) hf (fun c16 hf => ?_) (fun c16 hf => ?_)
        · refine g_iconst X dX0_readCommand_270 (v := 0) (by decide) ?_
          exact g_zret X hr dX0_readCommand_271 rfl hf
        · refine g_aload_n X (i := 0) dX0_readCommand_239 rfl rfl ?_
          refine g_get X (q0 := 0) (v := .int (o13.2.1 4)) 5 dX0_readCommand_240 gC_X0 rfl rfl (by decide) fl_X0_50 rfl rfl ?_
          refine g_bipush X dX0_readCommand_243 (v := (-2)) (by decide) ?_
          refine g_icmp_eq X dX0_readCommand_245 (tgt := 270) (by decide) hf (fun c17 hf => ?_) (fun c17 hf => ?_)
          · refine g_iconst X dX0_readCommand_270 (v := 0) (by decide) ?_
            exact g_zret X hr dX0_readCommand_271 rfl hf
          · refine g_aload_n X (i := 0) dX0_readCommand_248 rfl rfl ?_
            refine g_get X (q0 := 0) (v := .int (-2)) 6 dX0_readCommand_249 gC_X0 rfl rfl (by decide) fl_X0_53 rfl rfl ?_
            refine g_bipush X dX0_readCommand_252 (v := (-2)) (by decide) ?_
            refine g_icmp_eq X dX0_readCommand_254 (tgt := 270) (by decide) hf (fun c18 hf => ?_) (fun c18 hf => ?_)
            · refine g_iconst X dX0_readCommand_270 (v := 0) (by decide) ?_
              exact g_zret X hr dX0_readCommand_271 rfl hf
            · refine g_aload_n X (i := 0) dX0_readCommand_257 rfl rfl ?_
              refine g_bipush X dX0_readCommand_258 (v := 59) (by decide) ?_
              obtain ⟨o19, h20, hf⟩ := hfb hf
              refine g_Vi X (q0 := 0) (As := [.int 59]) (rest := []) (c_X0_read h20) dX0_readCommand_260 ml_X0_78 yv_X0_read rfl rfl rfl rfl ⟨Nat.le_of_ble_eq_true rfl, Nat.le_of_ble_eq_true rfl⟩ ⟨rfl, rfl⟩ (Nat.le_of_ble_eq_true rfl) ⟨Nat.le_of_ble_eq_true rfl, Nat.le_of_ble_eq_true rfl⟩ ?_
              refine g_if_eq X dX0_readCommand_263 (tgt := 270) (by decide) hf (fun c21 hf => ?_) (fun c21 hf => ?_)
              · refine g_iconst X dX0_readCommand_270 (v := 0) (by decide) ?_
                exact g_zret X hr dX0_readCommand_271 rfl hf
              · refine g_iconst X dX0_readCommand_266 (v := 1) (by decide) ?_
                refine g_goto X dX0_readCommand_267 (tgt := 271) (by decide) ?_
                exact g_zret X hr dX0_readCommand_271 rfl hf
      · refine g_aload_n X (i := 0) dX0_readCommand_218 rfl rfl ?_
        obtain ⟨o22, h23, hf⟩ := hfb hf
        refine g_Vi X (q0 := 0) (As := []) (rest := [.ref (ad 0)]) (c_X0_readTarget h23) dX0_readCommand_219 ml_X0_84 yv_X0_readTarget rfl rfl rfl rfl ⟨Nat.le_of_ble_eq_true rfl, Nat.le_of_ble_eq_true rfl⟩ ⟨rfl, rfl⟩ (Nat.le_of_ble_eq_true rfl) ⟨Nat.le_of_ble_eq_true rfl, Nat.le_of_ble_eq_true rfl⟩ ?_
        refine g_goto X dX0_readCommand_222 (tgt := 227) (by decide) ?_
        refine g_put X (q0 := 0) 6 dX0_readCommand_227 gC_X0 rfl rfl (by decide) fl_X0_53 rfl rfl rfl rfl (Nat.le_of_ble_eq_true rfl) (pwS_5 ad cI _ _) ?_
        refine g_aload_n X (i := 0) dX0_readCommand_230 rfl rfl ?_
        refine g_get X (q0 := 0) (v := .int (o22.2.1 3)) 4 dX0_readCommand_231 gC_X0 rfl rfl (by decide) fl_X0_38 rfl rfl ?_
        refine g_bipush X dX0_readCommand_234 (v := (-2)) (by decide) ?_
        refine g_icmp_eq X dX0_readCommand_236 (tgt := 270) (by decide) hf (fun c24 hf => ?_) (fun c24 hf => ?_)
        · refine g_iconst X dX0_readCommand_270 (v := 0) (by decide) ?_
          exact g_zret X hr dX0_readCommand_271 rfl hf
        · refine g_aload_n X (i := 0) dX0_readCommand_239 rfl rfl ?_
          refine g_get X (q0 := 0) (v := .int (o22.2.1 4)) 5 dX0_readCommand_240 gC_X0 rfl rfl (by decide) fl_X0_50 rfl rfl ?_
          refine g_bipush X dX0_readCommand_243 (v := (-2)) (by decide) ?_
          refine g_icmp_eq X dX0_readCommand_245 (tgt := 270) (by decide) hf (fun c25 hf => ?_) (fun c25 hf => ?_)
          · refine g_iconst X dX0_readCommand_270 (v := 0) (by decide) ?_
            exact g_zret X hr dX0_readCommand_271 rfl hf
          · refine g_aload_n X (i := 0) dX0_readCommand_248 rfl rfl ?_
            refine g_get X (q0 := 0) (v := .int o22.1) 6 dX0_readCommand_249 gC_X0 rfl rfl (by decide) fl_X0_53 rfl rfl ?_
            refine g_bipush X dX0_readCommand_252 (v := (-2)) (by decide) ?_
            refine g_icmp_eq X dX0_readCommand_254 (tgt := 270) (by decide) hf (fun c26 hf => ?_) (fun c26 hf => ?_)
            · refine g_iconst X dX0_readCommand_270 (v := 0) (by decide) ?_
              exact g_zret X hr dX0_readCommand_271 rfl hf
            · refine g_aload_n X (i := 0) dX0_readCommand_257 rfl rfl ?_
              refine g_bipush X dX0_readCommand_258 (v := 59) (by decide) ?_
              obtain ⟨o27, h28, hf⟩ := hfb hf
              refine g_Vi X (q0 := 0) (As := [.int 59]) (rest := []) (c_X0_read h28) dX0_readCommand_260 ml_X0_78 yv_X0_read rfl rfl rfl rfl ⟨Nat.le_of_ble_eq_true rfl, Nat.le_of_ble_eq_true rfl⟩ ⟨rfl, rfl⟩ (Nat.le_of_ble_eq_true rfl) ⟨Nat.le_of_ble_eq_true rfl, Nat.le_of_ble_eq_true rfl⟩ ?_
              refine g_if_eq X dX0_readCommand_263 (tgt := 270) (by decide) hf (fun c29 hf => ?_) (fun c29 hf => ?_)
              · refine g_iconst X dX0_readCommand_270 (v := 0) (by decide) ?_
                exact g_zret X hr dX0_readCommand_271 rfl hf
              · refine g_iconst X dX0_readCommand_266 (v := 1) (by decide) ?_
                refine g_goto X dX0_readCommand_267 (tgt := 271) (by decide) ?_
                exact g_zret X hr dX0_readCommand_271 rfl hf
    · refine g_aload_n X (i := 0) dX0_readCommand_196 rfl rfl ?_
      obtain ⟨o30, h31, hf⟩ := hfb hf
      refine g_Vi X (q0 := 0) (As := []) (rest := [.ref (ad 0)]) (c_X0_readNumber h31) dX0_readCommand_197 ml_X0_81 yv_X0_readNumber rfl rfl rfl rfl ⟨Nat.le_of_ble_eq_true rfl, Nat.le_of_ble_eq_true rfl⟩ ⟨rfl, rfl⟩ (Nat.le_of_ble_eq_true rfl) ⟨Nat.le_of_ble_eq_true rfl, Nat.le_of_ble_eq_true rfl⟩ ?_
      refine g_goto X dX0_readCommand_200 (tgt := 205) (by decide) ?_
      refine g_put X (q0 := 0) 5 dX0_readCommand_205 gC_X0 rfl rfl (by decide) fl_X0_50 rfl rfl rfl rfl (Nat.le_of_ble_eq_true rfl) (pwS_4 ad cI _ _) ?_
      refine g_aload_n X (i := 0) dX0_readCommand_208 rfl rfl ?_
      refine g_aload_n X (i := 0) dX0_readCommand_209 rfl rfl ?_
      refine g_bipush X dX0_readCommand_210 (v := 44) (by decide) ?_
      obtain ⟨o32, h33, hf⟩ := hfb hf
      refine g_Vi X (q0 := 0) (As := [.int 44]) (rest := [.ref (ad 0)]) (c_X0_read h33) dX0_readCommand_212 ml_X0_78 yv_X0_read rfl rfl rfl rfl ⟨Nat.le_of_ble_eq_true rfl, Nat.le_of_ble_eq_true rfl⟩ ⟨rfl, rfl⟩ (Nat.le_of_ble_eq_true rfl) ⟨Nat.le_of_ble_eq_true rfl, Nat.le_of_ble_eq_true rfl⟩ ?_
      refine g_if_eq X dX0_readCommand_215 (tgt := 225) (by decide) hf (fun c34 hf => ?_) (fun c34 hf => ?_)
      · refine g_bipush X dX0_readCommand_225 (v := (-2)) (by decide) ?_
        refine g_put X (q0 := 0) 6 dX0_readCommand_227 gC_X0 rfl rfl (by decide) fl_X0_53 rfl rfl rfl rfl (Nat.le_of_ble_eq_true rfl) (pwS_5 ad cI _ _) ?_
        refine g_aload_n X (i := 0) dX0_readCommand_230 rfl rfl ?_
        refine g_get X (q0 := 0) (v := .int (o32.2.1 3)) 4 dX0_readCommand_231 gC_X0 rfl rfl (by decide) fl_X0_38 rfl rfl ?_
        refine g_bipush X dX0_readCommand_234 (v := (-2)) (by decide) ?_
        refine g_icmp_eq X dX0_readCommand_236 (tgt := 270) (by decide) hf (fun c35 hf => ?_) (fun c35 hf => ?_)
        · refine g_iconst X dX0_readCommand_270 (v := 0) (by decide) ?_
          exact g_zret X hr dX0_readCommand_271 rfl hf
        · refine g_aload_n X (i := 0) dX0_readCommand_239 rfl rfl ?_
          refine g_get X (q0 := 0) (v := .int (o32.2.1 4)) 5 dX0_readCommand_240 gC_X0 rfl rfl (by decide) fl_X0_50 rfl rfl ?_
          refine g_bipush X dX0_readCommand_243 (v := (-2)) (by decide) ?_
          refine g_icmp_eq X dX0_readCommand_245 (tgt := 270) (by decide) hf (fun c36 hf => ?_) (fun c36 hf => ?_)
          · refine g_iconst X dX0_readCommand_270 (v := 0) (by decide) ?_
            exact g_zret X hr dX0_readCommand_271 rfl hf
          · refine g_aload_n X (i := 0) dX0_readCommand_248 rfl rfl ?_
            refine g_get X (q0 := 0) (v := .int (-2)) 6 dX0_readCommand_249 gC_X0 rfl rfl (by decide) fl_X0_53 rfl rfl ?_
            refine g_bipush X dX0_readCommand_252 (v := (-2)) (by decide) ?_
            refine g_icmp_eq X dX0_readCommand_254 (tgt := 270) (by decide) hf (fun c37 hf => ?_) (fun c37 hf => ?_)
            · refine g_iconst X dX0_readCommand_270 (v := 0) (by decide) ?_
              exact g_zret X hr dX0_readCommand_271 rfl hf
            · refine g_aload_n X (i := 0) dX0_readCommand_257 rfl rfl ?_
              refine g_bipush X dX0_readCommand_258 (v := 59) (by decide) ?_
              obtain ⟨o38, h39, hf⟩ := hfb hf
              refine g_Vi X (q0 := 0) (As := [.int 59]) (rest := []) (c_X0_read h39) dX0_readCommand_260 ml_X0_78 yv_X0_read rfl rfl rfl rfl ⟨Nat.le_of_ble_eq_true rfl, Nat.le_of_ble_eq_true rfl⟩ ⟨rfl, rfl⟩ (Nat.le_of_ble_eq_true rfl) ⟨Nat.le_of_ble_eq_true rfl, Nat.le_of_ble_eq_true rfl⟩ ?_
              refine g_if_eq X dX0_readCommand_263 (tgt := 270) (by decide) hf (fun c40 hf => ?_) (fun c40 hf => ?_)
              · refine g_iconst X dX0_readCommand_270 (v := 0) (by decide) ?_
                exact g_zret X hr dX0_readCommand_271 rfl hf
              · refine g_iconst X dX0_readCommand_266 (v := 1) (by decide) ?_
                refine g_goto X dX0_readCommand_267 (tgt := 271) (by decide) ?_
                exact g_zret X hr dX0_readCommand_271 rfl hf
      · refine g_aload_n X (i := 0) dX0_readCommand_218 rfl rfl ?_
        obtain ⟨o41, h42, hf⟩ := hfb hf
        refine g_Vi X (q0 := 0) (As := []) (rest := [.ref (ad 0)]) (c_X0_readTarget h42) dX0_readCommand_219 ml_X0_84 yv_X0_readTarget rfl rfl rfl rfl ⟨Nat.le_of_ble_eq_true rfl, Nat.le_of_ble_eq_true rfl⟩ ⟨rfl, rfl⟩ (Nat.le_of_ble_eq_true rfl) ⟨Nat.le_of_ble_eq_true rfl, Nat.le_of_ble_eq_true rfl⟩ ?_
        refine g_goto X dX0_readCommand_222 (tgt := 227) (by decide) ?_
        refine g_put X (q0 := 0) 6 dX0_readCommand_227 gC_X0 rfl rfl (by decide) fl_X0_53 rfl rfl rfl rfl (Nat.le_of_ble_eq_true rfl) (pwS_5 ad cI _ _) ?_
        refine g_aload_n X (i := 0) dX0_readCommand_230 rfl rfl ?_
        refine g_get X (q0 := 0) (v := .int (o41.2.1 3)) 4 dX0_readCommand_231 gC_X0 rfl rfl (by decide) fl_X0_38 rfl rfl ?_
        refine g_bipush X dX0_readCommand_234 (v := (-2)) (by decide) ?_
        refine g_icmp_eq X dX0_readCommand_236 (tgt := 270) (by decide) hf (fun c43 hf => ?_) (fun c43 hf => ?_)
        · refine g_iconst X dX0_readCommand_270 (v := 0) (by decide) ?_
          exact g_zret X hr dX0_readCommand_271 rfl hf
        · refine g_aload_n X (i := 0) dX0_readCommand_239 rfl rfl ?_
          refine g_get X (q0 := 0) (v := .int (o41.2.1 4)) 5 dX0_readCommand_240 gC_X0 rfl rfl (by decide) fl_X0_50 rfl rfl ?_
          refine g_bipush X dX0_readCommand_243 (v := (-2)) (by decide) ?_
          refine g_icmp_eq X dX0_readCommand_245 (tgt := 270) (by decide) hf (fun c44 hf => ?_) (fun c44 hf => ?_)
          · refine g_iconst X dX0_readCommand_270 (v := 0) (by decide) ?_
            exact g_zret X hr dX0_readCommand_271 rfl hf
          · refine g_aload_n X (i := 0) dX0_readCommand_248 rfl rfl ?_
            refine g_get X (q0 := 0) (v := .int o41.1) 6 dX0_readCommand_249 gC_X0 rfl rfl (by decide) fl_X0_53 rfl rfl ?_
            refine g_bipush X dX0_readCommand_252 (v := (-2)) (by decide) ?_
            refine g_icmp_eq X dX0_readCommand_254 (tgt := 270) (by decide) hf (fun c45 hf => ?_) (fun c45 hf => ?_)
            · refine g_iconst X dX0_readCommand_270 (v := 0) (by decide) ?_
              exact g_zret X hr dX0_readCommand_271 rfl hf
            · refine g_aload_n X (i := 0) dX0_readCommand_257 rfl rfl ?_
              refine g_bipush X dX0_readCommand_258 (v := 59) (by decide) ?_
              obtain ⟨o46, h47, hf⟩ := hfb hf
              refine g_Vi X (q0 := 0) (As := [.int 59]) (rest := []) (c_X0_read h47) dX0_readCommand_260 ml_X0_78 yv_X0_read rfl rfl rfl rfl ⟨Nat.le_of_ble_eq_true rfl, Nat.le_of_ble_eq_true rfl⟩ ⟨rfl, rfl⟩ (Nat.le_of_ble_eq_true rfl) ⟨Nat.le_of_ble_eq_true rfl, Nat.le_of_ble_eq_true rfl⟩ ?_
              refine g_if_eq X dX0_readCommand_263 (tgt := 270) (by decide) hf (fun c48 hf => ?_) (fun c48 hf => ?_)
              · refine g_iconst X dX0_readCommand_270 (v := 0) (by decide) ?_
                exact g_zret X hr dX0_readCommand_271 rfl hf
              · refine g_iconst X dX0_readCommand_266 (v := 1) (by decide) ?_
                refine g_goto X dX0_readCommand_267 (tgt := 271) (by decide) ?_
                exact g_zret X hr dX0_readCommand_271 rfl hf
  rcases hfi (q := o1.1 = 110) hf with ⟨c49, hf⟩ | ⟨c49, hf⟩
  · refine g_lookup X (off := 57) dX0_readCommand_26 rfl (by first | (rw [c49]; done) | (rw [c49]; rfl)) (tgt := 83) (by decide) ?_
    refine g_aload_n X (i := 0) dX0_readCommand_83 rfl rfl ?_
    refine g_aload_n X (i := 0) dX0_readCommand_84 rfl rfl ?_
    obtain ⟨o50, h51, hf⟩ := hfb hf
    refine g_Vi X (q0 := 0) (As := []) (rest := [.ref (ad 0)]) (c_X0_readNumber h51) dX0_readCommand_85 ml_X0_81 yv_X0_readNumber rfl rfl rfl rfl ⟨Nat.le_of_ble_eq_true rfl, Nat.le_of_ble_eq_true rfl⟩ ⟨rfl, rfl⟩ (Nat.le_of_ble_eq_true rfl) ⟨Nat.le_of_ble_eq_true rfl, Nat.le_of_ble_eq_true rfl⟩ ?_
    refine g_put X (q0 := 0) 4 dX0_readCommand_88 gC_X0 rfl rfl (by decide) fl_X0_38 rfl rfl rfl rfl (Nat.le_of_ble_eq_true rfl) (pwS_3 ad cI _ _) ?_
    refine g_aload_n X (i := 0) dX0_readCommand_91 rfl rfl ?_
    refine g_get X (q0 := 0) (v := .int o50.1) 4 dX0_readCommand_92 gC_X0 rfl rfl (by decide) fl_X0_38 rfl rfl ?_
    refine g_bipush X dX0_readCommand_95 (v := (-2)) (by decide) ?_
    refine g_icmp_eq X dX0_readCommand_97 (tgt := 113) (by decide) hf (fun c52 hf => ?_) (fun c52 hf => ?_)
    · refine g_iconst X dX0_readCommand_113 (v := 0) (by decide) ?_
      exact g_zret X hr dX0_readCommand_114 rfl hf
    · refine g_aload_n X (i := 0) dX0_readCommand_100 rfl rfl ?_
      refine g_bipush X dX0_readCommand_101 (v := 59) (by decide) ?_
      obtain ⟨o53, h54, hf⟩ := hfb hf
      refine g_Vi X (q0 := 0) (As := [.int 59]) (rest := []) (c_X0_read h54) dX0_readCommand_103 ml_X0_78 yv_X0_read rfl rfl rfl rfl ⟨Nat.le_of_ble_eq_true rfl, Nat.le_of_ble_eq_true rfl⟩ ⟨rfl, rfl⟩ (Nat.le_of_ble_eq_true rfl) ⟨Nat.le_of_ble_eq_true rfl, Nat.le_of_ble_eq_true rfl⟩ ?_
      refine g_if_eq X dX0_readCommand_106 (tgt := 113) (by decide) hf (fun c55 hf => ?_) (fun c55 hf => ?_)
      · refine g_iconst X dX0_readCommand_113 (v := 0) (by decide) ?_
        exact g_zret X hr dX0_readCommand_114 rfl hf
      · refine g_iconst X dX0_readCommand_109 (v := 1) (by decide) ?_
        refine g_goto X dX0_readCommand_110 (tgt := 114) (by decide) ?_
        exact g_zret X hr dX0_readCommand_114 rfl hf
  rcases hfi (q := o1.1 = 114) hf with ⟨c56, hf⟩ | ⟨c56, hf⟩
  · refine g_lookup X (off := 89) dX0_readCommand_26 rfl (by first | (rw [c56]; done) | (rw [c56]; rfl)) (tgt := 115) (by decide) ?_
    refine g_aload_n X (i := 0) dX0_readCommand_115 rfl rfl ?_
    refine g_aload_n X (i := 0) dX0_readCommand_116 rfl rfl ?_
    obtain ⟨o57, h58, hf⟩ := hfb hf
    refine g_Vi X (q0 := 0) (As := []) (rest := [.ref (ad 0)]) (c_X0_readNumber h58) dX0_readCommand_117 ml_X0_81 yv_X0_readNumber rfl rfl rfl rfl ⟨Nat.le_of_ble_eq_true rfl, Nat.le_of_ble_eq_true rfl⟩ ⟨rfl, rfl⟩ (Nat.le_of_ble_eq_true rfl) ⟨Nat.le_of_ble_eq_true rfl, Nat.le_of_ble_eq_true rfl⟩ ?_
    refine g_put X (q0 := 0) 4 dX0_readCommand_120 gC_X0 rfl rfl (by decide) fl_X0_38 rfl rfl rfl rfl (Nat.le_of_ble_eq_true rfl) (pwS_3 ad cI _ _) ?_
    refine g_aload_n X (i := 0) dX0_readCommand_123 rfl rfl ?_
    refine g_aload_n X (i := 0) dX0_readCommand_124 rfl rfl ?_
    refine g_bipush X dX0_readCommand_125 (v := 44) (by decide) ?_
    obtain ⟨o59, h60, hf⟩ := hfb hf
    refine g_Vi X (q0 := 0) (As := [.int 44]) (rest := [.ref (ad 0)]) (c_X0_read h60) dX0_readCommand_127 ml_X0_78 yv_X0_read rfl rfl rfl rfl ⟨Nat.le_of_ble_eq_true rfl, Nat.le_of_ble_eq_true rfl⟩ ⟨rfl, rfl⟩ (Nat.le_of_ble_eq_true rfl) ⟨Nat.le_of_ble_eq_true rfl, Nat.le_of_ble_eq_true rfl⟩ ?_
    refine g_if_eq X dX0_readCommand_130 (tgt := 140) (by decide) hf (fun c61 hf => ?_) (fun c61 hf => ?_)
    · refine g_bipush X dX0_readCommand_140 (v := (-2)) (by decide) ?_
      refine g_put X (q0 := 0) 5 dX0_readCommand_142 gC_X0 rfl rfl (by decide) fl_X0_50 rfl rfl rfl rfl (Nat.le_of_ble_eq_true rfl) (pwS_4 ad cI _ _) ?_
      refine g_aload_n X (i := 0) dX0_readCommand_145 rfl rfl ?_
      refine g_get X (q0 := 0) (v := .int (o59.2.1 3)) 4 dX0_readCommand_146 gC_X0 rfl rfl (by decide) fl_X0_38 rfl rfl ?_
      refine g_bipush X dX0_readCommand_149 (v := (-2)) (by decide) ?_
      refine g_icmp_eq X dX0_readCommand_151 (tgt := 176) (by decide) hf (fun c62 hf => ?_) (fun c62 hf => ?_)
      · refine g_iconst X dX0_readCommand_176 (v := 0) (by decide) ?_
        exact g_zret X hr dX0_readCommand_177 rfl hf
      · refine g_aload_n X (i := 0) dX0_readCommand_154 rfl rfl ?_
        refine g_get X (q0 := 0) (v := .int (-2)) 5 dX0_readCommand_155 gC_X0 rfl rfl (by decide) fl_X0_50 rfl rfl ?_
        refine g_bipush X dX0_readCommand_158 (v := (-2)) (by decide) ?_
        refine g_icmp_eq X dX0_readCommand_160 (tgt := 176) (by decide) hf (fun c63 hf => ?_) (fun c63 hf => ?_)
        · refine g_iconst X dX0_readCommand_176 (v := 0) (by decide) ?_
          exact g_zret X hr dX0_readCommand_177 rfl hf
        · refine g_aload_n X (i := 0) dX0_readCommand_163 rfl rfl ?_
          refine g_bipush X dX0_readCommand_164 (v := 59) (by decide) ?_
          obtain ⟨o64, h65, hf⟩ := hfb hf
          refine g_Vi X (q0 := 0) (As := [.int 59]) (rest := []) (c_X0_read h65) dX0_readCommand_166 ml_X0_78 yv_X0_read rfl rfl rfl rfl ⟨Nat.le_of_ble_eq_true rfl, Nat.le_of_ble_eq_true rfl⟩ ⟨rfl, rfl⟩ (Nat.le_of_ble_eq_true rfl) ⟨Nat.le_of_ble_eq_true rfl, Nat.le_of_ble_eq_true rfl⟩ ?_
          refine g_if_eq X dX0_readCommand_169 (tgt := 176) (by decide) hf (fun c66 hf => ?_) (fun c66 hf => ?_)
          · refine g_iconst X dX0_readCommand_176 (v := 0) (by decide) ?_
            exact g_zret X hr dX0_readCommand_177 rfl hf
          · refine g_iconst X dX0_readCommand_172 (v := 1) (by decide) ?_
            refine g_goto X dX0_readCommand_173 (tgt := 177) (by decide) ?_
            exact g_zret X hr dX0_readCommand_177 rfl hf
    · refine g_aload_n X (i := 0) dX0_readCommand_133 rfl rfl ?_
      obtain ⟨o67, h68, hf⟩ := hfb hf
      refine g_Vi X (q0 := 0) (As := []) (rest := [.ref (ad 0)]) (c_X0_readTarget h68) dX0_readCommand_134 ml_X0_84 yv_X0_readTarget rfl rfl rfl rfl ⟨Nat.le_of_ble_eq_true rfl, Nat.le_of_ble_eq_true rfl⟩ ⟨rfl, rfl⟩ (Nat.le_of_ble_eq_true rfl) ⟨Nat.le_of_ble_eq_true rfl, Nat.le_of_ble_eq_true rfl⟩ ?_
      refine g_goto X dX0_readCommand_137 (tgt := 142) (by decide) ?_
      refine g_put X (q0 := 0) 5 dX0_readCommand_142 gC_X0 rfl rfl (by decide) fl_X0_50 rfl rfl rfl rfl (Nat.le_of_ble_eq_true rfl) (pwS_4 ad cI _ _) ?_
      refine g_aload_n X (i := 0) dX0_readCommand_145 rfl rfl ?_
      refine g_get X (q0 := 0) (v := .int (o67.2.1 3)) 4 dX0_readCommand_146 gC_X0 rfl rfl (by decide) fl_X0_38 rfl rfl ?_
      refine g_bipush X dX0_readCommand_149 (v := (-2)) (by decide) ?_
      refine g_icmp_eq X dX0_readCommand_151 (tgt := 176) (by decide) hf (fun c69 hf => ?_) (fun c69 hf => ?_)
      · refine g_iconst X dX0_readCommand_176 (v := 0) (by decide) ?_
        exact g_zret X hr dX0_readCommand_177 rfl hf
      · refine g_aload_n X (i := 0) dX0_readCommand_154 rfl rfl ?_
        refine g_get X (q0 := 0) (v := .int o67.1) 5 dX0_readCommand_155 gC_X0 rfl rfl (by decide) fl_X0_50 rfl rfl ?_
        refine g_bipush X dX0_readCommand_158 (v := (-2)) (by decide) ?_
        refine g_icmp_eq X dX0_readCommand_160 (tgt := 176) (by decide) hf (fun c70 hf => ?_) (fun c70 hf => ?_)
        · refine g_iconst X dX0_readCommand_176 (v := 0) (by decide) ?_
          exact g_zret X hr dX0_readCommand_177 rfl hf
        · refine g_aload_n X (i := 0) dX0_readCommand_163 rfl rfl ?_
          refine g_bipush X dX0_readCommand_164 (v := 59) (by decide) ?_
          obtain ⟨o71, h72, hf⟩ := hfb hf
          refine g_Vi X (q0 := 0) (As := [.int 59]) (rest := []) (c_X0_read h72) dX0_readCommand_166 ml_X0_78 yv_X0_read rfl rfl rfl rfl ⟨Nat.le_of_ble_eq_true rfl, Nat.le_of_ble_eq_true rfl⟩ ⟨rfl, rfl⟩ (Nat.le_of_ble_eq_true rfl) ⟨Nat.le_of_ble_eq_true rfl, Nat.le_of_ble_eq_true rfl⟩ ?_
          refine g_if_eq X dX0_readCommand_169 (tgt := 176) (by decide) hf (fun c73 hf => ?_) (fun c73 hf => ?_)
          · refine g_iconst X dX0_readCommand_176 (v := 0) (by decide) ?_
            exact g_zret X hr dX0_readCommand_177 rfl hf
          · refine g_iconst X dX0_readCommand_172 (v := 1) (by decide) ?_
            refine g_goto X dX0_readCommand_173 (tgt := 177) (by decide) ?_
            exact g_zret X hr dX0_readCommand_177 rfl hf
  rcases hfi (q := o1.1 = 115) hf with ⟨c74, hf⟩ | ⟨c74, hf⟩
  · refine g_lookup X (off := 57) dX0_readCommand_26 rfl (by first | (rw [c74]; done) | (rw [c74]; rfl)) (tgt := 83) (by decide) ?_
    refine g_aload_n X (i := 0) dX0_readCommand_83 rfl rfl ?_
    refine g_aload_n X (i := 0) dX0_readCommand_84 rfl rfl ?_
    obtain ⟨o75, h76, hf⟩ := hfb hf
    refine g_Vi X (q0 := 0) (As := []) (rest := [.ref (ad 0)]) (c_X0_readNumber h76) dX0_readCommand_85 ml_X0_81 yv_X0_readNumber rfl rfl rfl rfl ⟨Nat.le_of_ble_eq_true rfl, Nat.le_of_ble_eq_true rfl⟩ ⟨rfl, rfl⟩ (Nat.le_of_ble_eq_true rfl) ⟨Nat.le_of_ble_eq_true rfl, Nat.le_of_ble_eq_true rfl⟩ ?_
    refine g_put X (q0 := 0) 4 dX0_readCommand_88 gC_X0 rfl rfl (by decide) fl_X0_38 rfl rfl rfl rfl (Nat.le_of_ble_eq_true rfl) (pwS_3 ad cI _ _) ?_
    refine g_aload_n X (i := 0) dX0_readCommand_91 rfl rfl ?_
    refine g_get X (q0 := 0) (v := .int o75.1) 4 dX0_readCommand_92 gC_X0 rfl rfl (by decide) fl_X0_38 rfl rfl ?_
    refine g_bipush X dX0_readCommand_95 (v := (-2)) (by decide) ?_
    refine g_icmp_eq X dX0_readCommand_97 (tgt := 113) (by decide) hf (fun c77 hf => ?_) (fun c77 hf => ?_)
    · refine g_iconst X dX0_readCommand_113 (v := 0) (by decide) ?_
      exact g_zret X hr dX0_readCommand_114 rfl hf
    · refine g_aload_n X (i := 0) dX0_readCommand_100 rfl rfl ?_
      refine g_bipush X dX0_readCommand_101 (v := 59) (by decide) ?_
      obtain ⟨o78, h79, hf⟩ := hfb hf
      refine g_Vi X (q0 := 0) (As := [.int 59]) (rest := []) (c_X0_read h79) dX0_readCommand_103 ml_X0_78 yv_X0_read rfl rfl rfl rfl ⟨Nat.le_of_ble_eq_true rfl, Nat.le_of_ble_eq_true rfl⟩ ⟨rfl, rfl⟩ (Nat.le_of_ble_eq_true rfl) ⟨Nat.le_of_ble_eq_true rfl, Nat.le_of_ble_eq_true rfl⟩ ?_
      refine g_if_eq X dX0_readCommand_106 (tgt := 113) (by decide) hf (fun c80 hf => ?_) (fun c80 hf => ?_)
      · refine g_iconst X dX0_readCommand_113 (v := 0) (by decide) ?_
        exact g_zret X hr dX0_readCommand_114 rfl hf
      · refine g_iconst X dX0_readCommand_109 (v := 1) (by decide) ?_
        refine g_goto X dX0_readCommand_110 (tgt := 114) (by decide) ?_
        exact g_zret X hr dX0_readCommand_114 rfl hf
  refine g_lookup X (off := 246) dX0_readCommand_26 rfl (show Op.lookupswitch.offset [(98, 50), (102, 152), (110, 57), (114, 89), (115, 57)] (246) (o1.1).toInt = 246 by first | (rw [lv_osw c3 (by decide), lv_osw c7 (by decide), lv_osw c49 (by decide), lv_osw c56 (by decide), lv_osw c74 (by decide)]; done) | (rw [lv_osw c3 (by decide), lv_osw c7 (by decide), lv_osw c49 (by decide), lv_osw c56 (by decide), lv_osw c74 (by decide)]; rfl)) (tgt := 272) (by decide) ?_
  refine g_iconst X dX0_readCommand_272 (v := 0) (by decide) ?_
  exact g_zret X hr dX0_readCommand_273 rfl hf
def f_X0_tryOn_L17 : Nat → Int32 → St → Option (Int32 × St)
  | 0, _, _ => none
  | n + 1, x2, w => (if x2 < 60 then (if (w.1 1) < (w.1 0) then (f_X0_readCommand (sR w 7 (w.1 1))).bind fun o3 => (if o3.1 = 0 then some (0, sR o3.2 8 1) else (if (o3.2.1 2) = 98 then (f_X5_beginSearch o3.2).bind fun o7 => (f_X6_isError o7.1 (sR o7.2 9 o7.1)).bind fun o9 => (if o9.1 = 0 then f_X0_tryOn_L17 n (x2 + 1) (sR o9.2 6 ((o9.2.1 6) + 1)) else some (0, sR o9.2 8 2)) else (if (o3.2.1 2) = 102 then (f_X5_writeField (o3.2.1 3) (o3.2.1 4) (o3.2.1 5) o3.2).bind fun o13 => (f_X6_isError o13.1 (sR o13.2 9 o13.1)).bind fun o15 => (if o15.1 = 0 then f_X0_tryOn_L17 n (x2 + 1) (sR o15.2 6 ((o15.2.1 6) + 1)) else some (0, sR o15.2 8 2)) else (if (o3.2.1 2) = 110 then (f_X5_create (o3.2.1 3) o3.2).bind fun o19 => (f_X6_isError o19.1 (sR o19.2 9 o19.1)).bind fun o21 => (if o21.1 = 0 then f_X0_tryOn_L17 n (x2 + 1) (sR o21.2 6 ((o21.2.1 6) + 1)) else some (0, sR o21.2 8 2)) else (if (o3.2.1 2) = 114 then (f_X5_writeRoot (o3.2.1 3) (o3.2.1 4) o3.2).bind fun o25 => (f_X6_isError o25.1 (sR o25.2 9 o25.1)).bind fun o27 => (if o27.1 = 0 then f_X0_tryOn_L17 n (x2 + 1) (sR o27.2 6 ((o27.2.1 6) + 1)) else some (0, sR o27.2 8 2)) else (f_X5_doSteps (o3.2.1 3) o3.2).bind fun o30 => (f_X6_isError o30.1 (sR o30.2 9 o30.1)).bind fun o32 => (if o32.1 = 0 then f_X0_tryOn_L17 n (x2 + 1) (sR o32.2 6 ((o32.2.1 6) + 1)) else some (0, sR o32.2 8 2))))))) else some (0, w)) else some (0, w))
def f_X0_tryOn (w : St) : Option (Int32 × St) := f_X0_tryOn_L17 BIG 0 (sR (sR (sR w 1 0) 6 0) 8 0)
set_option maxRecDepth 100000 in
set_option maxHeartbeats 4000000 in
theorem gl_X0_tryOn_L17 {p : Program} {l : Launch} {e : Env} {s : State} {m : MethodId} {args : Array Value} {below : List Frame} {meth : Method} {c : Code} {D : va_G} {A : Nat → Prop} {cI : ClassId × ClassId} {ad : Nat → Nat} {o : Int32 × St} (X : gX p s m args meth c cX0_tryOn 3 RX0 D cI) (hr : meth.sig.returnType = none) (n : Nat) : ∀ {x2 : Int32} {w : St}, f_X0_tryOn_L17 n x2 w = some o → G p l e rm_X0_tryOn s m args below meth c D A 3 (MQ below (qcV D A ((wS ad cI) o.2)) args s 0 0 A) (wS ad cI) 0 0 17 [some (.ref (ad 0)), some (.ref (ad 2)), some (.int x2)] [] w := by
  induction n with
  | zero => intro x2 w hf; cases hf
  | succ n ih =>
    intro x2 w hf
    rw [f_X0_tryOn_L17] at hf
    refine g_iload_n X (i := 2) dX0_tryOn_17 rfl rfl ?_
    refine g_bipush X dX0_tryOn_18 (v := 60) (by decide) ?_
    refine g_icmp_ge X dX0_tryOn_20 (tgt := 212) (by decide) hf (fun c1 hf => ?_) (fun c1 hf => ?_)
    · refine g_aload_n X (i := 0) dX0_tryOn_23 rfl rfl ?_
      refine g_get X (q0 := 0) (v := .int (w.1 1)) 2 dX0_tryOn_24 gC_X0 rfl rfl (by decide) fl_X0_19 rfl rfl ?_
      refine g_aload_n X (i := 0) dX0_tryOn_27 rfl rfl ?_
      refine g_get X (q0 := 0) (v := .int (w.1 0)) 1 dX0_tryOn_28 gC_X0 rfl rfl (by decide) fl_X0_15 rfl rfl ?_
      refine g_icmp_ge X dX0_tryOn_31 (tgt := 212) (by decide) hf (fun c2 hf => ?_) (fun c2 hf => ?_)
      · refine g_aload_n X (i := 0) dX0_tryOn_34 rfl rfl ?_
        refine g_aload_n X (i := 0) dX0_tryOn_35 rfl rfl ?_
        refine g_get X (q0 := 0) (v := .int (w.1 1)) 2 dX0_tryOn_36 gC_X0 rfl rfl (by decide) fl_X0_19 rfl rfl ?_
        refine g_put X (q0 := 0) 8 dX0_tryOn_39 gC_X0 rfl rfl (by decide) fl_X0_28 rfl rfl rfl rfl (Nat.le_of_ble_eq_true rfl) (pwS_7 ad cI _ _) ?_
        refine g_aload_n X (i := 0) dX0_tryOn_42 rfl rfl ?_
        obtain ⟨o3, h4, hf⟩ := hfb hf
        refine g_Vi X (q0 := 0) (As := []) (rest := []) (c_X0_readCommand h4) dX0_tryOn_43 ml_X0_31 yv_X0_readCommand rfl rfl rfl rfl ⟨Nat.le_of_ble_eq_true rfl, Nat.le_of_ble_eq_true rfl⟩ ⟨rfl, rfl⟩ (Nat.le_of_ble_eq_true rfl) ⟨Nat.le_of_ble_eq_true rfl, Nat.le_of_ble_eq_true rfl⟩ ?_
        refine g_if_ne X dX0_tryOn_46 (tgt := 55) (by decide) hf (fun c5 hf => ?_) (fun c5 hf => ?_)
        · refine g_aload_n X (i := 0) dX0_tryOn_49 rfl rfl ?_
          refine g_iconst X dX0_tryOn_50 (v := 1) (by decide) ?_
          refine g_put X (q0 := 0) 9 dX0_tryOn_51 gC_X0 rfl rfl (by decide) fl_X0_25 rfl rfl rfl rfl (Nat.le_of_ble_eq_true rfl) (pwS_8 ad cI _ _) ?_
          exact g_vret X hr dX0_tryOn_54 hf
        · refine g_aload_n X (i := 0) dX0_tryOn_55 rfl rfl ?_
          refine g_get X (q0 := 0) (v := .int (o3.2.1 2)) 3 dX0_tryOn_56 gC_X0 rfl rfl (by decide) fl_X0_35 rfl rfl ?_
          rcases hfi (q := (o3.2.1 2) = 98) hf with ⟨c6, hf⟩ | ⟨c6, hf⟩
          · refine g_lookup X (off := 98) dX0_tryOn_59 rfl (by first | (rw [c6]; done) | (rw [c6]; rfl)) (tgt := 157) (by decide) ?_
            refine g_aload_n X (i := 0) dX0_tryOn_157 rfl rfl ?_
            refine g_aload_n X (i := 1) dX0_tryOn_158 rfl rfl ?_
            obtain ⟨o7, h8, hf⟩ := hfb hf
            refine g_Vi X (q0 := 2) (As := []) (rest := [.ref (ad 0)]) (c_X5_beginSearch h8) dX0_tryOn_159 ml_X0_64 yv_X5_beginSearch rfl rfl rfl rfl ⟨Nat.le_of_ble_eq_true rfl, Nat.le_of_ble_eq_true rfl⟩ ⟨rfl, rfl⟩ (Nat.le_of_ble_eq_true rfl) ⟨Nat.le_of_ble_eq_true rfl, Nat.le_of_ble_eq_true rfl⟩ ?_
            refine g_put X (q0 := 0) 10 dX0_tryOn_162 gC_X0 rfl rfl (by decide) fl_X0_47 rfl rfl rfl rfl (Nat.le_of_ble_eq_true rfl) (pwS_9 ad cI _ _) ?_
            refine g_goto X dX0_tryOn_165 (tgt := 180) (by decide) ?_
            refine g_aload_n X (i := 0) dX0_tryOn_180 rfl rfl ?_
            refine g_get X (q0 := 0) (v := .int o7.1) 10 dX0_tryOn_181 gC_X0 rfl rfl (by decide) fl_X0_47 rfl rfl ?_
            obtain ⟨o9, h10, hf⟩ := hfb hf
            refine g_Ni X (As := [.int o7.1]) (rest := []) (c_X6_isError (wf := (wS ad cI)) h10) dX0_tryOn_184 ml_X0_71 yv_X6_isError rfl rfl ⟨Nat.le_of_ble_eq_true rfl, Nat.le_of_ble_eq_true rfl⟩ ⟨rfl, rfl⟩ (Nat.le_of_ble_eq_true rfl) ⟨Nat.le_of_ble_eq_true rfl, Nat.le_of_ble_eq_true rfl⟩ ?_
            refine g_if_eq X dX0_tryOn_187 (tgt := 196) (by decide) hf (fun c11 hf => ?_) (fun c11 hf => ?_)
            · refine g_aload_n X (i := 0) dX0_tryOn_196 rfl rfl ?_
              refine g_dup X dX0_tryOn_197 rfl ?_
              refine g_get X (q0 := 0) (v := .int (o9.2.1 6)) 7 dX0_tryOn_198 gC_X0 rfl rfl (by decide) fl_X0_22 rfl rfl ?_
              refine g_iconst X dX0_tryOn_201 (v := 1) (by decide) ?_
              refine g_iadd X dX0_tryOn_202 ?_
              refine g_put X (q0 := 0) 7 dX0_tryOn_203 gC_X0 rfl rfl (by decide) fl_X0_22 rfl rfl rfl rfl (Nat.le_of_ble_eq_true rfl) (pwS_6 ad cI _ _) ?_
              refine g_iinc X (i := 2) (v := 1) dX0_tryOn_206 rfl (by decide) (by decide) rfl ?_
              refine g_goto X dX0_tryOn_209 (tgt := 17) (by decide) ?_
              exact ih hf
            · refine g_aload_n X (i := 0) dX0_tryOn_190 rfl rfl ?_
              refine g_iconst X dX0_tryOn_191 (v := 2) (by decide) ?_
              refine g_put X (q0 := 0) 9 dX0_tryOn_192 gC_X0 rfl rfl (by decide) fl_X0_25 rfl rfl rfl rfl (Nat.le_of_ble_eq_true rfl) (pwS_8 ad cI _ _) ?_
              exact g_vret X hr dX0_tryOn_195 hf
          rcases hfi (q := (o3.2.1 2) = 102) hf with ⟨c12, hf⟩ | ⟨c12, hf⟩
          · refine g_lookup X (off := 56) dX0_tryOn_59 rfl (by first | (rw [c12]; done) | (rw [c12]; rfl)) (tgt := 115) (by decide) ?_
            refine g_aload_n X (i := 0) dX0_tryOn_115 rfl rfl ?_
            refine g_aload_n X (i := 1) dX0_tryOn_116 rfl rfl ?_
            refine g_aload_n X (i := 0) dX0_tryOn_117 rfl rfl ?_
            refine g_get X (q0 := 0) (v := .int (o3.2.1 3)) 4 dX0_tryOn_118 gC_X0 rfl rfl (by decide) fl_X0_38 rfl rfl ?_
            refine g_aload_n X (i := 0) dX0_tryOn_121 rfl rfl ?_
            refine g_get X (q0 := 0) (v := .int (o3.2.1 4)) 5 dX0_tryOn_122 gC_X0 rfl rfl (by decide) fl_X0_50 rfl rfl ?_
            refine g_aload_n X (i := 0) dX0_tryOn_125 rfl rfl ?_
            refine g_get X (q0 := 0) (v := .int (o3.2.1 5)) 6 dX0_tryOn_126 gC_X0 rfl rfl (by decide) fl_X0_53 rfl rfl ?_
            obtain ⟨o13, h14, hf⟩ := hfb hf
            refine g_Vi X (q0 := 2) (As := [.int (o3.2.1 3), .int (o3.2.1 4), .int (o3.2.1 5)]) (rest := [.ref (ad 0)]) (c_X5_writeField h14) dX0_tryOn_129 ml_X0_56 yv_X5_writeField rfl rfl rfl rfl ⟨Nat.le_of_ble_eq_true rfl, Nat.le_of_ble_eq_true rfl⟩ ⟨rfl, rfl⟩ (Nat.le_of_ble_eq_true rfl) ⟨Nat.le_of_ble_eq_true rfl, Nat.le_of_ble_eq_true rfl⟩ ?_
            refine g_put X (q0 := 0) 10 dX0_tryOn_132 gC_X0 rfl rfl (by decide) fl_X0_47 rfl rfl rfl rfl (Nat.le_of_ble_eq_true rfl) (pwS_9 ad cI _ _) ?_
            refine g_goto X dX0_tryOn_135 (tgt := 180) (by decide) ?_
            refine g_aload_n X (i := 0) dX0_tryOn_180 rfl rfl ?_
            refine g_get X (q0 := 0) (v := .int o13.1) 10 dX0_tryOn_181 gC_X0 rfl rfl (by decide) fl_X0_47 rfl rfl ?_
            obtain ⟨o15, h16, hf⟩ := hfb hf
            refine g_Ni X (As := [.int o13.1]) (rest := []) (c_X6_isError (wf := (wS ad cI)) h16) dX0_tryOn_184 ml_X0_71 yv_X6_isError rfl rfl ⟨Nat.le_of_ble_eq_true rfl, Nat.le_of_ble_eq_true rfl⟩ ⟨rfl, rfl⟩ (Nat.le_of_ble_eq_true rfl) ⟨Nat.le_of_ble_eq_true rfl, Nat.le_of_ble_eq_true rfl⟩ ?_
            refine g_if_eq X dX0_tryOn_187 (tgt := 196) (by decide) hf (fun c17 hf => ?_) (fun c17 hf => ?_)
            · refine g_aload_n X (i := 0) dX0_tryOn_196 rfl rfl ?_
              refine g_dup X dX0_tryOn_197 rfl ?_
              refine g_get X (q0 := 0) (v := .int (o15.2.1 6)) 7 dX0_tryOn_198 gC_X0 rfl rfl (by decide) fl_X0_22 rfl rfl ?_
              refine g_iconst X dX0_tryOn_201 (v := 1) (by decide) ?_
              refine g_iadd X dX0_tryOn_202 ?_
              refine g_put X (q0 := 0) 7 dX0_tryOn_203 gC_X0 rfl rfl (by decide) fl_X0_22 rfl rfl rfl rfl (Nat.le_of_ble_eq_true rfl) (pwS_6 ad cI _ _) ?_
              refine g_iinc X (i := 2) (v := 1) dX0_tryOn_206 rfl (by decide) (by decide) rfl ?_
              refine g_goto X dX0_tryOn_209 (tgt := 17) (by decide) ?_
              exact ih hf
            · refine g_aload_n X (i := 0) dX0_tryOn_190 rfl rfl ?_
              refine g_iconst X dX0_tryOn_191 (v := 2) (by decide) ?_
              refine g_put X (q0 := 0) 9 dX0_tryOn_192 gC_X0 rfl rfl (by decide) fl_X0_25 rfl rfl rfl rfl (Nat.le_of_ble_eq_true rfl) (pwS_8 ad cI _ _) ?_
              exact g_vret X hr dX0_tryOn_195 hf
          rcases hfi (q := (o3.2.1 2) = 110) hf with ⟨c18, hf⟩ | ⟨c18, hf⟩
          · refine g_lookup X (off := 41) dX0_tryOn_59 rfl (by first | (rw [c18]; done) | (rw [c18]; rfl)) (tgt := 100) (by decide) ?_
            refine g_aload_n X (i := 0) dX0_tryOn_100 rfl rfl ?_
            refine g_aload_n X (i := 1) dX0_tryOn_101 rfl rfl ?_
            refine g_aload_n X (i := 0) dX0_tryOn_102 rfl rfl ?_
            refine g_get X (q0 := 0) (v := .int (o3.2.1 3)) 4 dX0_tryOn_103 gC_X0 rfl rfl (by decide) fl_X0_38 rfl rfl ?_
            obtain ⟨o19, h20, hf⟩ := hfb hf
            refine g_Vi X (q0 := 2) (As := [.int (o3.2.1 3)]) (rest := [.ref (ad 0)]) (c_X5_create h20) dX0_tryOn_106 ml_X0_41 yv_X5_create rfl rfl rfl rfl ⟨Nat.le_of_ble_eq_true rfl, Nat.le_of_ble_eq_true rfl⟩ ⟨rfl, rfl⟩ (Nat.le_of_ble_eq_true rfl) ⟨Nat.le_of_ble_eq_true rfl, Nat.le_of_ble_eq_true rfl⟩ ?_
            refine g_put X (q0 := 0) 10 dX0_tryOn_109 gC_X0 rfl rfl (by decide) fl_X0_47 rfl rfl rfl rfl (Nat.le_of_ble_eq_true rfl) (pwS_9 ad cI _ _) ?_
            refine g_goto X dX0_tryOn_112 (tgt := 180) (by decide) ?_
            refine g_aload_n X (i := 0) dX0_tryOn_180 rfl rfl ?_
            refine g_get X (q0 := 0) (v := .int o19.1) 10 dX0_tryOn_181 gC_X0 rfl rfl (by decide) fl_X0_47 rfl rfl ?_
            obtain ⟨o21, h22, hf⟩ := hfb hf
            refine g_Ni X (As := [.int o19.1]) (rest := []) (c_X6_isError (wf := (wS ad cI)) h22) dX0_tryOn_184 ml_X0_71 yv_X6_isError rfl rfl ⟨Nat.le_of_ble_eq_true rfl, Nat.le_of_ble_eq_true rfl⟩ ⟨rfl, rfl⟩ (Nat.le_of_ble_eq_true rfl) ⟨Nat.le_of_ble_eq_true rfl, Nat.le_of_ble_eq_true rfl⟩ ?_
            refine g_if_eq X dX0_tryOn_187 (tgt := 196) (by decide) hf (fun c23 hf => ?_) (fun c23 hf => ?_)
            · refine g_aload_n X (i := 0) dX0_tryOn_196 rfl rfl ?_
              refine g_dup X dX0_tryOn_197 rfl ?_
              refine g_get X (q0 := 0) (v := .int (o21.2.1 6)) 7 dX0_tryOn_198 gC_X0 rfl rfl (by decide) fl_X0_22 rfl rfl ?_
              refine g_iconst X dX0_tryOn_201 (v := 1) (by decide) ?_
              refine g_iadd X dX0_tryOn_202 ?_
              refine g_put X (q0 := 0) 7 dX0_tryOn_203 gC_X0 rfl rfl (by decide) fl_X0_22 rfl rfl rfl rfl (Nat.le_of_ble_eq_true rfl) (pwS_6 ad cI _ _) ?_
              refine g_iinc X (i := 2) (v := 1) dX0_tryOn_206 rfl (by decide) (by decide) rfl ?_
              refine g_goto X dX0_tryOn_209 (tgt := 17) (by decide) ?_
              exact ih hf
            · refine g_aload_n X (i := 0) dX0_tryOn_190 rfl rfl ?_
              refine g_iconst X dX0_tryOn_191 (v := 2) (by decide) ?_
              refine g_put X (q0 := 0) 9 dX0_tryOn_192 gC_X0 rfl rfl (by decide) fl_X0_25 rfl rfl rfl rfl (Nat.le_of_ble_eq_true rfl) (pwS_8 ad cI _ _) ?_
              exact g_vret X hr dX0_tryOn_195 hf
          rcases hfi (q := (o3.2.1 2) = 114) hf with ⟨c24, hf⟩ | ⟨c24, hf⟩
          · refine g_lookup X (off := 79) dX0_tryOn_59 rfl (by first | (rw [c24]; done) | (rw [c24]; rfl)) (tgt := 138) (by decide) ?_
            refine g_aload_n X (i := 0) dX0_tryOn_138 rfl rfl ?_
            refine g_aload_n X (i := 1) dX0_tryOn_139 rfl rfl ?_
            refine g_aload_n X (i := 0) dX0_tryOn_140 rfl rfl ?_
            refine g_get X (q0 := 0) (v := .int (o3.2.1 3)) 4 dX0_tryOn_141 gC_X0 rfl rfl (by decide) fl_X0_38 rfl rfl ?_
            refine g_aload_n X (i := 0) dX0_tryOn_144 rfl rfl ?_
            refine g_get X (q0 := 0) (v := .int (o3.2.1 4)) 5 dX0_tryOn_145 gC_X0 rfl rfl (by decide) fl_X0_50 rfl rfl ?_
            obtain ⟨o25, h26, hf⟩ := hfb hf
            refine g_Vi X (q0 := 2) (As := [.int (o3.2.1 3), .int (o3.2.1 4)]) (rest := [.ref (ad 0)]) (c_X5_writeRoot h26) dX0_tryOn_148 ml_X0_60 yv_X5_writeRoot rfl rfl rfl rfl ⟨Nat.le_of_ble_eq_true rfl, Nat.le_of_ble_eq_true rfl⟩ ⟨rfl, rfl⟩ (Nat.le_of_ble_eq_true rfl) ⟨Nat.le_of_ble_eq_true rfl, Nat.le_of_ble_eq_true rfl⟩ ?_
            refine g_put X (q0 := 0) 10 dX0_tryOn_151 gC_X0 rfl rfl (by decide) fl_X0_47 rfl rfl rfl rfl (Nat.le_of_ble_eq_true rfl) (pwS_9 ad cI _ _) ?_
            refine g_goto X dX0_tryOn_154 (tgt := 180) (by decide) ?_
            refine g_aload_n X (i := 0) dX0_tryOn_180 rfl rfl ?_
            refine g_get X (q0 := 0) (v := .int o25.1) 10 dX0_tryOn_181 gC_X0 rfl rfl (by decide) fl_X0_47 rfl rfl ?_
            obtain ⟨o27, h28, hf⟩ := hfb hf
            refine g_Ni X (As := [.int o25.1]) (rest := []) (c_X6_isError (wf := (wS ad cI)) h28) dX0_tryOn_184 ml_X0_71 yv_X6_isError rfl rfl ⟨Nat.le_of_ble_eq_true rfl, Nat.le_of_ble_eq_true rfl⟩ ⟨rfl, rfl⟩ (Nat.le_of_ble_eq_true rfl) ⟨Nat.le_of_ble_eq_true rfl, Nat.le_of_ble_eq_true rfl⟩ ?_
            refine g_if_eq X dX0_tryOn_187 (tgt := 196) (by decide) hf (fun c29 hf => ?_) (fun c29 hf => ?_)
            · refine g_aload_n X (i := 0) dX0_tryOn_196 rfl rfl ?_
              refine g_dup X dX0_tryOn_197 rfl ?_
              refine g_get X (q0 := 0) (v := .int (o27.2.1 6)) 7 dX0_tryOn_198 gC_X0 rfl rfl (by decide) fl_X0_22 rfl rfl ?_
              refine g_iconst X dX0_tryOn_201 (v := 1) (by decide) ?_
              refine g_iadd X dX0_tryOn_202 ?_
              refine g_put X (q0 := 0) 7 dX0_tryOn_203 gC_X0 rfl rfl (by decide) fl_X0_22 rfl rfl rfl rfl (Nat.le_of_ble_eq_true rfl) (pwS_6 ad cI _ _) ?_
              refine g_iinc X (i := 2) (v := 1) dX0_tryOn_206 rfl (by decide) (by decide) rfl ?_
              refine g_goto X dX0_tryOn_209 (tgt := 17) (by decide) ?_
              exact ih hf
            · refine g_aload_n X (i := 0) dX0_tryOn_190 rfl rfl ?_
              refine g_iconst X dX0_tryOn_191 (v := 2) (by decide) ?_
              refine g_put X (q0 := 0) 9 dX0_tryOn_192 gC_X0 rfl rfl (by decide) fl_X0_25 rfl rfl rfl rfl (Nat.le_of_ble_eq_true rfl) (pwS_8 ad cI _ _) ?_
              exact g_vret X hr dX0_tryOn_195 hf
          refine g_lookup X (off := 109) dX0_tryOn_59 rfl (show Op.lookupswitch.offset [(98, 98), (102, 56), (110, 41), (114, 79)] (109) ((o3.2.1 2)).toInt = 109 by first | (rw [lv_osw c6 (by decide), lv_osw c12 (by decide), lv_osw c18 (by decide), lv_osw c24 (by decide)]; done) | (rw [lv_osw c6 (by decide), lv_osw c12 (by decide), lv_osw c18 (by decide), lv_osw c24 (by decide)]; rfl)) (tgt := 168) (by decide) ?_
          refine g_aload_n X (i := 0) dX0_tryOn_168 rfl rfl ?_
          refine g_aload_n X (i := 1) dX0_tryOn_169 rfl rfl ?_
          refine g_aload_n X (i := 0) dX0_tryOn_170 rfl rfl ?_
          refine g_get X (q0 := 0) (v := .int (o3.2.1 3)) 4 dX0_tryOn_171 gC_X0 rfl rfl (by decide) fl_X0_38 rfl rfl ?_
          obtain ⟨o30, h31, hf⟩ := hfb hf
          refine g_Vi X (q0 := 2) (As := [.int (o3.2.1 3)]) (rest := [.ref (ad 0)]) (c_X5_doSteps h31) dX0_tryOn_174 ml_X0_68 yv_X5_doSteps rfl rfl rfl rfl ⟨Nat.le_of_ble_eq_true rfl, Nat.le_of_ble_eq_true rfl⟩ ⟨rfl, rfl⟩ (Nat.le_of_ble_eq_true rfl) ⟨Nat.le_of_ble_eq_true rfl, Nat.le_of_ble_eq_true rfl⟩ ?_
          refine g_put X (q0 := 0) 10 dX0_tryOn_177 gC_X0 rfl rfl (by decide) fl_X0_47 rfl rfl rfl rfl (Nat.le_of_ble_eq_true rfl) (pwS_9 ad cI _ _) ?_
          refine g_aload_n X (i := 0) dX0_tryOn_180 rfl rfl ?_
          refine g_get X (q0 := 0) (v := .int o30.1) 10 dX0_tryOn_181 gC_X0 rfl rfl (by decide) fl_X0_47 rfl rfl ?_
          obtain ⟨o32, h33, hf⟩ := hfb hf
          refine g_Ni X (As := [.int o30.1]) (rest := []) (c_X6_isError (wf := (wS ad cI)) h33) dX0_tryOn_184 ml_X0_71 yv_X6_isError rfl rfl ⟨Nat.le_of_ble_eq_true rfl, Nat.le_of_ble_eq_true rfl⟩ ⟨rfl, rfl⟩ (Nat.le_of_ble_eq_true rfl) ⟨Nat.le_of_ble_eq_true rfl, Nat.le_of_ble_eq_true rfl⟩ ?_
          refine g_if_eq X dX0_tryOn_187 (tgt := 196) (by decide) hf (fun c34 hf => ?_) (fun c34 hf => ?_)
          · refine g_aload_n X (i := 0) dX0_tryOn_196 rfl rfl ?_
            refine g_dup X dX0_tryOn_197 rfl ?_
            refine g_get X (q0 := 0) (v := .int (o32.2.1 6)) 7 dX0_tryOn_198 gC_X0 rfl rfl (by decide) fl_X0_22 rfl rfl ?_
            refine g_iconst X dX0_tryOn_201 (v := 1) (by decide) ?_
            refine g_iadd X dX0_tryOn_202 ?_
            refine g_put X (q0 := 0) 7 dX0_tryOn_203 gC_X0 rfl rfl (by decide) fl_X0_22 rfl rfl rfl rfl (Nat.le_of_ble_eq_true rfl) (pwS_6 ad cI _ _) ?_
            refine g_iinc X (i := 2) (v := 1) dX0_tryOn_206 rfl (by decide) (by decide) rfl ?_
            refine g_goto X dX0_tryOn_209 (tgt := 17) (by decide) ?_
            exact ih hf
          · refine g_aload_n X (i := 0) dX0_tryOn_190 rfl rfl ?_
            refine g_iconst X dX0_tryOn_191 (v := 2) (by decide) ?_
            refine g_put X (q0 := 0) 9 dX0_tryOn_192 gC_X0 rfl rfl (by decide) fl_X0_25 rfl rfl rfl rfl (Nat.le_of_ble_eq_true rfl) (pwS_8 ad cI _ _) ?_
            exact g_vret X hr dX0_tryOn_195 hf
      · exact g_vret X hr dX0_tryOn_212 hf
    · exact g_vret X hr dX0_tryOn_212 hf
set_option maxRecDepth 100000 in
set_option maxHeartbeats 4000000 in
theorem c_X0_tryOn {l : Launch} {D : va_G} {cI : ClassId × ClassId} {A : Nat → Prop} {ad : Nat → Nat} {w : St} {o : Int32 × St} (hf : f_X0_tryOn w = some o) : CTv l D cI A yX0_tryOn cX0_tryOn 3 (none) rm_X0_tryOn [.ref (ad 0), .ref (ad 2)] ((wS ad cI) w) ((wS ad cI) o.2)   := by
  refine CTv.of (by decide +kernel) rfl (Nat.le_of_ble_eq_true rfl) ?_
  intro p e s m args below meth c X hr
  have X : gX p s m args meth c cX0_tryOn 3 RX0 D cI := X
  show G _ _ _ _ _ _ _ _ _ _ _ _ _ _ _ _ _ 0 [some (.ref (ad 0)), some (.ref (ad 2)), none] [] w
  unfold f_X0_tryOn at hf
  refine g_aload_n X (i := 0) dX0_tryOn_0 rfl rfl ?_
  refine g_iconst X dX0_tryOn_1 (v := 0) (by decide) ?_
  refine g_put X (q0 := 0) 2 dX0_tryOn_2 gC_X0 rfl rfl (by decide) fl_X0_19 rfl rfl rfl rfl (Nat.le_of_ble_eq_true rfl) (pwS_1 ad cI _ _) ?_
  refine g_aload_n X (i := 0) dX0_tryOn_5 rfl rfl ?_
  refine g_iconst X dX0_tryOn_6 (v := 0) (by decide) ?_
  refine g_put X (q0 := 0) 7 dX0_tryOn_7 gC_X0 rfl rfl (by decide) fl_X0_22 rfl rfl rfl rfl (Nat.le_of_ble_eq_true rfl) (pwS_6 ad cI _ _) ?_
  refine g_aload_n X (i := 0) dX0_tryOn_10 rfl rfl ?_
  refine g_iconst X dX0_tryOn_11 (v := 0) (by decide) ?_
  refine g_put X (q0 := 0) 9 dX0_tryOn_12 gC_X0 rfl rfl (by decide) fl_X0_25 rfl rfl rfl rfl (Nat.le_of_ble_eq_true rfl) (pwS_8 ad cI _ _) ?_
  refine g_iconst X dX0_tryOn_15 (v := 0) (by decide) ?_
  refine g_istore_n X (i := 2) dX0_tryOn_16 rfl (by decide) rfl ?_
  exact gl_X0_tryOn_L17 X hr BIG hf
