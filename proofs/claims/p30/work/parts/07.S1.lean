def f_X3_append_5 (x1 : Int32) (w : St) : Option (Int32 × St) := (if (w.1 23) < 24 then if ib (w.1 23) 24 then some (0, sR (sA w 4 (w.1 23) x1) 23 ((w.1 23) + 1)) else none else some (0, w))
set_option maxRecDepth 100000 in
set_option maxHeartbeats 4000000 in
theorem c_X3_append_5 {l : Launch} {D : va_G} {cI : ClassId × ClassId} {A : Nat → Prop} {ad : Nat → Nat} {x1 : Int32} {w : St} {o : Int32 × St} (hf : f_X3_append_5 x1 w = some o) : CTv l D cI A yX3_append cX3_append 2 (none) rm_X3_append [.ref (ad 5), .int x1] ((wS ad cI) w) ((wS ad cI) o.2)   := by
  refine CTv.of (by decide +kernel) rfl (Nat.le_of_ble_eq_true rfl) ?_
  intro p e s m args below meth c X hr
  have X : gX p s m args meth c cX3_append 2 RX3 D cI := X
  show G _ _ _ _ _ _ _ _ _ _ _ _ _ _ _ _ _ 0 [some (.ref (ad 5)), some (.int x1)] [] w
  unfold f_X3_append_5 at hf
  refine g_aload_n X (i := 0) dX3_append_0 rfl rfl ?_
  refine g_get X (q0 := 5) (v := .int (w.1 23)) 1 dX3_append_1 gC_X3 rfl rfl (by decide) fl_X3_15 rfl rfl ?_
  refine g_bipush X dX3_append_4 (v := 24) (by decide) ?_
  refine g_icmp_ge X dX3_append_6 (tgt := 29) (by decide) hf (fun c1 hf => ?_) (fun c1 hf => ?_)
  · refine g_aload_n X (i := 0) dX3_append_9 rfl rfl ?_
    refine g_get X (q0 := 5) (v := .ref (ad 10)) 0 dX3_append_10 gC_X3 rfl rfl (by decide) fl_X3_9 rfl rfl ?_
    refine g_aload_n X (i := 0) dX3_append_13 rfl rfl ?_
    refine g_get X (q0 := 5) (v := .int (w.1 23)) 1 dX3_append_14 gC_X3 rfl rfl (by decide) fl_X3_15 rfl rfl ?_
    refine g_iload_n X (i := 1) dX3_append_17 rfl rfl ?_
    obtain ⟨hb2, hf⟩ := hfg hf
    refine g_iast X (q0 := 10) (f := w.2 4) dX3_append_18 rfl hb2 (awS_4 ad cI _ _ _) ?_
    refine g_aload_n X (i := 0) dX3_append_19 rfl rfl ?_
    refine g_dup X dX3_append_20 rfl ?_
    refine g_get X (q0 := 5) (v := .int (w.1 23)) 1 dX3_append_21 gC_X3 rfl rfl (by decide) fl_X3_15 rfl rfl ?_
    refine g_iconst X dX3_append_24 (v := 1) (by decide) ?_
    refine g_iadd X dX3_append_25 ?_
    refine g_put X (q0 := 5) 1 dX3_append_26 gC_X3 rfl rfl (by decide) fl_X3_15 rfl rfl rfl rfl (Nat.le_of_ble_eq_true rfl) (pwS_23 ad cI _ _) ?_
    exact g_vret X hr dX3_append_29 hf
  · exact g_vret X hr dX3_append_29 hf
def f_X3_append_6 (x1 : Int32) (w : St) : Option (Int32 × St) := (if (w.1 24) < 24 then if ib (w.1 24) 24 then some (0, sR (sA w 5 (w.1 24) x1) 24 ((w.1 24) + 1)) else none else some (0, w))
set_option maxRecDepth 100000 in
set_option maxHeartbeats 4000000 in
theorem c_X3_append_6 {l : Launch} {D : va_G} {cI : ClassId × ClassId} {A : Nat → Prop} {ad : Nat → Nat} {x1 : Int32} {w : St} {o : Int32 × St} (hf : f_X3_append_6 x1 w = some o) : CTv l D cI A yX3_append cX3_append 2 (none) rm_X3_append [.ref (ad 6), .int x1] ((wS ad cI) w) ((wS ad cI) o.2)   := by
  refine CTv.of (by decide +kernel) rfl (Nat.le_of_ble_eq_true rfl) ?_
  intro p e s m args below meth c X hr
  have X : gX p s m args meth c cX3_append 2 RX3 D cI := X
  show G _ _ _ _ _ _ _ _ _ _ _ _ _ _ _ _ _ 0 [some (.ref (ad 6)), some (.int x1)] [] w
  unfold f_X3_append_6 at hf
  refine g_aload_n X (i := 0) dX3_append_0 rfl rfl ?_
  refine g_get X (q0 := 6) (v := .int (w.1 24)) 1 dX3_append_1 gC_X3 rfl rfl (by decide) fl_X3_15 rfl rfl ?_
  refine g_bipush X dX3_append_4 (v := 24) (by decide) ?_
  refine g_icmp_ge X dX3_append_6 (tgt := 29) (by decide) hf (fun c1 hf => ?_) (fun c1 hf => ?_)
  · refine g_aload_n X (i := 0) dX3_append_9 rfl rfl ?_
    refine g_get X (q0 := 6) (v := .ref (ad 11)) 0 dX3_append_10 gC_X3 rfl rfl (by decide) fl_X3_9 rfl rfl ?_
    refine g_aload_n X (i := 0) dX3_append_13 rfl rfl ?_
    refine g_get X (q0 := 6) (v := .int (w.1 24)) 1 dX3_append_14 gC_X3 rfl rfl (by decide) fl_X3_15 rfl rfl ?_
    refine g_iload_n X (i := 1) dX3_append_17 rfl rfl ?_
    obtain ⟨hb2, hf⟩ := hfg hf
    refine g_iast X (q0 := 11) (f := w.2 5) dX3_append_18 rfl hb2 (awS_5 ad cI _ _ _) ?_
    refine g_aload_n X (i := 0) dX3_append_19 rfl rfl ?_
    refine g_dup X dX3_append_20 rfl ?_
    refine g_get X (q0 := 6) (v := .int (w.1 24)) 1 dX3_append_21 gC_X3 rfl rfl (by decide) fl_X3_15 rfl rfl ?_
    refine g_iconst X dX3_append_24 (v := 1) (by decide) ?_
    refine g_iadd X dX3_append_25 ?_
    refine g_put X (q0 := 6) 1 dX3_append_26 gC_X3 rfl rfl (by decide) fl_X3_15 rfl rfl rfl rfl (Nat.le_of_ble_eq_true rfl) (pwS_24 ad cI _ _) ?_
    exact g_vret X hr dX3_append_29 hf
  · exact g_vret X hr dX3_append_29 hf
def f_X3_at_5 (x1 : Int32) (w : St) : Option (Int32 × St) := (f_X6_isIn x1 (w.1 23) w).bind fun o1 => (if o1.1 = 0 then some ((-1), o1.2) else (if x1 < 24 then if ib x1 24 then some (o1.2.2 4 x1.toNatClampNeg, o1.2) else none else some ((-1), o1.2)))
set_option maxRecDepth 100000 in
set_option maxHeartbeats 4000000 in
theorem c_X3_at_5 {l : Launch} {D : va_G} {cI : ClassId × ClassId} {A : Nat → Prop} {ad : Nat → Nat} {x1 : Int32} {w : St} {o : Int32 × St} (hf : f_X3_at_5 x1 w = some o) : CTi l D cI A yX3_at cX3_at 2 (some .int) rm_X3_at [.ref (ad 5), .int x1] ((wS ad cI) w) o.1 ((wS ad cI) o.2)   := by
  refine CTi.of (by decide +kernel) rfl (Nat.le_of_ble_eq_true rfl) ?_
  intro p e s m args below meth c X hr
  have X : gX p s m args meth c cX3_at 2 RX3 D cI := X
  show G _ _ _ _ _ _ _ _ _ _ _ _ _ _ _ _ _ 0 [some (.ref (ad 5)), some (.int x1)] [] w
  unfold f_X3_at_5 at hf
  refine g_iload_n X (i := 1) dX3_at_0 rfl rfl ?_
  refine g_aload_n X (i := 0) dX3_at_1 rfl rfl ?_
  refine g_get X (q0 := 5) (v := .int (w.1 23)) 1 dX3_at_2 gC_X3 rfl rfl (by decide) fl_X3_15 rfl rfl ?_
  obtain ⟨o1, h2, hf⟩ := hfb hf
  refine g_Ni X (As := [.int x1, .int (w.1 23)]) (rest := []) (c_X6_isIn (wf := (wS ad cI)) h2) dX3_at_5 ml_X3_19 yv_X6_isIn rfl rfl ⟨Nat.le_of_ble_eq_true rfl, Nat.le_of_ble_eq_true rfl⟩ ⟨rfl, rfl⟩ (Nat.le_of_ble_eq_true rfl) ⟨Nat.le_of_ble_eq_true rfl, Nat.le_of_ble_eq_true rfl⟩ ?_
  refine g_if_eq X dX3_at_8 (tgt := 26) (by decide) hf (fun c3 hf => ?_) (fun c3 hf => ?_)
  · refine g_iconst X dX3_at_26 (v := (-1)) (by decide) ?_
    exact g_iret X hr dX3_at_27 hf
  · refine g_iload_n X (i := 1) dX3_at_11 rfl rfl ?_
    refine g_bipush X dX3_at_12 (v := 24) (by decide) ?_
    refine g_icmp_ge X dX3_at_14 (tgt := 26) (by decide) hf (fun c4 hf => ?_) (fun c4 hf => ?_)
    · refine g_aload_n X (i := 0) dX3_at_17 rfl rfl ?_
      refine g_get X (q0 := 5) (v := .ref (ad 10)) 0 dX3_at_18 gC_X3 rfl rfl (by decide) fl_X3_9 rfl rfl ?_
      refine g_iload_n X (i := 1) dX3_at_21 rfl rfl ?_
      obtain ⟨hb5, hf⟩ := hfg hf
      refine g_iald X (q0 := 10) (f := o1.2.2 4) dX3_at_22 rfl hb5 ?_
      refine g_goto X dX3_at_23 (tgt := 27) (by decide) ?_
      exact g_iret X hr dX3_at_27 hf
    · refine g_iconst X dX3_at_26 (v := (-1)) (by decide) ?_
      exact g_iret X hr dX3_at_27 hf
def f_X3_at_6 (x1 : Int32) (w : St) : Option (Int32 × St) := (f_X6_isIn x1 (w.1 24) w).bind fun o1 => (if o1.1 = 0 then some ((-1), o1.2) else (if x1 < 24 then if ib x1 24 then some (o1.2.2 5 x1.toNatClampNeg, o1.2) else none else some ((-1), o1.2)))
set_option maxRecDepth 100000 in
set_option maxHeartbeats 4000000 in
theorem c_X3_at_6 {l : Launch} {D : va_G} {cI : ClassId × ClassId} {A : Nat → Prop} {ad : Nat → Nat} {x1 : Int32} {w : St} {o : Int32 × St} (hf : f_X3_at_6 x1 w = some o) : CTi l D cI A yX3_at cX3_at 2 (some .int) rm_X3_at [.ref (ad 6), .int x1] ((wS ad cI) w) o.1 ((wS ad cI) o.2)   := by
  refine CTi.of (by decide +kernel) rfl (Nat.le_of_ble_eq_true rfl) ?_
  intro p e s m args below meth c X hr
  have X : gX p s m args meth c cX3_at 2 RX3 D cI := X
  show G _ _ _ _ _ _ _ _ _ _ _ _ _ _ _ _ _ 0 [some (.ref (ad 6)), some (.int x1)] [] w
  unfold f_X3_at_6 at hf
  refine g_iload_n X (i := 1) dX3_at_0 rfl rfl ?_
  refine g_aload_n X (i := 0) dX3_at_1 rfl rfl ?_
  refine g_get X (q0 := 6) (v := .int (w.1 24)) 1 dX3_at_2 gC_X3 rfl rfl (by decide) fl_X3_15 rfl rfl ?_
  obtain ⟨o1, h2, hf⟩ := hfb hf
  refine g_Ni X (As := [.int x1, .int (w.1 24)]) (rest := []) (c_X6_isIn (wf := (wS ad cI)) h2) dX3_at_5 ml_X3_19 yv_X6_isIn rfl rfl ⟨Nat.le_of_ble_eq_true rfl, Nat.le_of_ble_eq_true rfl⟩ ⟨rfl, rfl⟩ (Nat.le_of_ble_eq_true rfl) ⟨Nat.le_of_ble_eq_true rfl, Nat.le_of_ble_eq_true rfl⟩ ?_
  refine g_if_eq X dX3_at_8 (tgt := 26) (by decide) hf (fun c3 hf => ?_) (fun c3 hf => ?_)
  · refine g_iconst X dX3_at_26 (v := (-1)) (by decide) ?_
    exact g_iret X hr dX3_at_27 hf
  · refine g_iload_n X (i := 1) dX3_at_11 rfl rfl ?_
    refine g_bipush X dX3_at_12 (v := 24) (by decide) ?_
    refine g_icmp_ge X dX3_at_14 (tgt := 26) (by decide) hf (fun c4 hf => ?_) (fun c4 hf => ?_)
    · refine g_aload_n X (i := 0) dX3_at_17 rfl rfl ?_
      refine g_get X (q0 := 6) (v := .ref (ad 11)) 0 dX3_at_18 gC_X3 rfl rfl (by decide) fl_X3_9 rfl rfl ?_
      refine g_iload_n X (i := 1) dX3_at_21 rfl rfl ?_
      obtain ⟨hb5, hf⟩ := hfg hf
      refine g_iald X (q0 := 11) (f := o1.2.2 5) dX3_at_22 rfl hb5 ?_
      refine g_goto X dX3_at_23 (tgt := 27) (by decide) ?_
      exact g_iret X hr dX3_at_27 hf
    · refine g_iconst X dX3_at_26 (v := (-1)) (by decide) ?_
      exact g_iret X hr dX3_at_27 hf
def f_X3_takeFirst_5 (w : St) : Option (Int32 × St) := (if (0 : Int32) < (w.1 23) then (if (24 : Int32) < (w.1 23) then some ((-1), w) else if ib 0 24 then if cpb 1 0 ((w.1 23) - 1) 24 24 then some (w.2 4 (0 : Int32).toNatClampNeg, sG (sR w 23 ((w.1 23) - 1)) 4 (va_cpy (w.2 4) (w.2 4) (1 : Int32).toNatClampNeg (0 : Int32).toNatClampNeg ((w.1 23) - 1).toNatClampNeg)) else none else none) else some ((-1), w))
set_option maxRecDepth 100000 in
set_option maxHeartbeats 4000000 in
theorem c_X3_takeFirst_5 {l : Launch} {D : va_G} {cI : ClassId × ClassId} {A : Nat → Prop} {ad : Nat → Nat} {w : St} {o : Int32 × St} (hf : f_X3_takeFirst_5 w = some o) : CTi l D cI A yX3_takeFirst cX3_takeFirst 2 (some .int) rm_X3_takeFirst [.ref (ad 5)] ((wS ad cI) w) o.1 ((wS ad cI) o.2)   := by
  refine CTi.of (by decide +kernel) rfl (Nat.le_of_ble_eq_true rfl) ?_
  intro p e s m args below meth c X hr
  have X : gX p s m args meth c cX3_takeFirst 2 RX3 D cI := X
  show G _ _ _ _ _ _ _ _ _ _ _ _ _ _ _ _ _ 0 [some (.ref (ad 5)), none] [] w
  unfold f_X3_takeFirst_5 at hf
  refine g_aload_n X (i := 0) dX3_takeFirst_0 rfl rfl ?_
  refine g_get X (q0 := 5) (v := .int (w.1 23)) 1 dX3_takeFirst_1 gC_X3 rfl rfl (by decide) fl_X3_15 rfl rfl ?_
  refine g_if_le X dX3_takeFirst_4 (tgt := 16) (by decide) hf (fun c1 hf => ?_) (fun c1 hf => ?_)
  · refine g_aload_n X (i := 0) dX3_takeFirst_7 rfl rfl ?_
    refine g_get X (q0 := 5) (v := .int (w.1 23)) 1 dX3_takeFirst_8 gC_X3 rfl rfl (by decide) fl_X3_15 rfl rfl ?_
    refine g_bipush X dX3_takeFirst_11 (v := 24) (by decide) ?_
    refine g_icmp_le X dX3_takeFirst_13 (tgt := 18) (by decide) hf (fun c2 hf => ?_) (fun c2 hf => ?_)
    · refine g_iconst X dX3_takeFirst_16 (v := (-1)) (by decide) ?_
      exact g_iret X hr dX3_takeFirst_17 hf
    · refine g_aload_n X (i := 0) dX3_takeFirst_18 rfl rfl ?_
      refine g_get X (q0 := 5) (v := .ref (ad 10)) 0 dX3_takeFirst_19 gC_X3 rfl rfl (by decide) fl_X3_9 rfl rfl ?_
      refine g_iconst X dX3_takeFirst_22 (v := 0) (by decide) ?_
      obtain ⟨hb3, hf⟩ := hfg hf
      refine g_iald X (q0 := 10) (f := w.2 4) dX3_takeFirst_23 rfl hb3 ?_
      refine g_istore_n X (i := 1) dX3_takeFirst_24 rfl (by decide) rfl ?_
      refine g_aload_n X (i := 0) dX3_takeFirst_25 rfl rfl ?_
      refine g_dup X dX3_takeFirst_26 rfl ?_
      refine g_get X (q0 := 5) (v := .int (w.1 23)) 1 dX3_takeFirst_27 gC_X3 rfl rfl (by decide) fl_X3_15 rfl rfl ?_
      refine g_iconst X dX3_takeFirst_30 (v := 1) (by decide) ?_
      refine g_isub X dX3_takeFirst_31 ?_
      refine g_put X (q0 := 5) 1 dX3_takeFirst_32 gC_X3 rfl rfl (by decide) fl_X3_15 rfl rfl rfl rfl (Nat.le_of_ble_eq_true rfl) (pwS_23 ad cI _ _) ?_
      refine g_aload_n X (i := 0) dX3_takeFirst_35 rfl rfl ?_
      refine g_get X (q0 := 5) (v := .ref (ad 10)) 0 dX3_takeFirst_36 gC_X3 rfl rfl (by decide) fl_X3_9 rfl rfl ?_
      refine g_iconst X dX3_takeFirst_39 (v := 1) (by decide) ?_
      refine g_aload_n X (i := 0) dX3_takeFirst_40 rfl rfl ?_
      refine g_get X (q0 := 5) (v := .ref (ad 10)) 0 dX3_takeFirst_41 gC_X3 rfl rfl (by decide) fl_X3_9 rfl rfl ?_
      refine g_iconst X dX3_takeFirst_44 (v := 0) (by decide) ?_
      refine g_aload_n X (i := 0) dX3_takeFirst_45 rfl rfl ?_
      refine g_get X (q0 := 5) (v := .int ((w.1 23) - 1)) 1 dX3_takeFirst_46 gC_X3 rfl rfl (by decide) fl_X3_15 rfl rfl ?_
      obtain ⟨hb4, hf⟩ := hfg hf
      refine g_copy X (q0 := 10) (q1 := 10) (f := w.2 4) (g := w.2 4) dX3_takeFirst_49 ml_X3_23 nat_cp st_cp ini_cp rfl rfl hb4.1 hb4.2.1 hb4.2.2.1 hb4.2.2.2.1 hb4.2.2.2.2 ⟨Nat.le_of_ble_eq_true rfl, Nat.le_of_ble_eq_true rfl⟩ (gwS_4 ad cI _ _) ?_
      refine g_iload_n X (i := 1) dX3_takeFirst_52 rfl rfl ?_
      exact g_iret X hr dX3_takeFirst_53 hf
  · refine g_iconst X dX3_takeFirst_16 (v := (-1)) (by decide) ?_
    exact g_iret X hr dX3_takeFirst_17 hf
def f_X3_takeFirst_6 (w : St) : Option (Int32 × St) := (if (0 : Int32) < (w.1 24) then (if (24 : Int32) < (w.1 24) then some ((-1), w) else if ib 0 24 then if cpb 1 0 ((w.1 24) - 1) 24 24 then some (w.2 5 (0 : Int32).toNatClampNeg, sG (sR w 24 ((w.1 24) - 1)) 5 (va_cpy (w.2 5) (w.2 5) (1 : Int32).toNatClampNeg (0 : Int32).toNatClampNeg ((w.1 24) - 1).toNatClampNeg)) else none else none) else some ((-1), w))
set_option maxRecDepth 100000 in
set_option maxHeartbeats 4000000 in
theorem c_X3_takeFirst_6 {l : Launch} {D : va_G} {cI : ClassId × ClassId} {A : Nat → Prop} {ad : Nat → Nat} {w : St} {o : Int32 × St} (hf : f_X3_takeFirst_6 w = some o) : CTi l D cI A yX3_takeFirst cX3_takeFirst 2 (some .int) rm_X3_takeFirst [.ref (ad 6)] ((wS ad cI) w) o.1 ((wS ad cI) o.2)   := by
  refine CTi.of (by decide +kernel) rfl (Nat.le_of_ble_eq_true rfl) ?_
  intro p e s m args below meth c X hr
  have X : gX p s m args meth c cX3_takeFirst 2 RX3 D cI := X
  show G _ _ _ _ _ _ _ _ _ _ _ _ _ _ _ _ _ 0 [some (.ref (ad 6)), none] [] w
  unfold f_X3_takeFirst_6 at hf
  refine g_aload_n X (i := 0) dX3_takeFirst_0 rfl rfl ?_
  refine g_get X (q0 := 6) (v := .int (w.1 24)) 1 dX3_takeFirst_1 gC_X3 rfl rfl (by decide) fl_X3_15 rfl rfl ?_
  refine g_if_le X dX3_takeFirst_4 (tgt := 16) (by decide) hf (fun c1 hf => ?_) (fun c1 hf => ?_)
  · refine g_aload_n X (i := 0) dX3_takeFirst_7 rfl rfl ?_
    refine g_get X (q0 := 6) (v := .int (w.1 24)) 1 dX3_takeFirst_8 gC_X3 rfl rfl (by decide) fl_X3_15 rfl rfl ?_
    refine g_bipush X dX3_takeFirst_11 (v := 24) (by decide) ?_
    refine g_icmp_le X dX3_takeFirst_13 (tgt := 18) (by decide) hf (fun c2 hf => ?_) (fun c2 hf => ?_)
    · refine g_iconst X dX3_takeFirst_16 (v := (-1)) (by decide) ?_
      exact g_iret X hr dX3_takeFirst_17 hf
    · refine g_aload_n X (i := 0) dX3_takeFirst_18 rfl rfl ?_
      refine g_get X (q0 := 6) (v := .ref (ad 11)) 0 dX3_takeFirst_19 gC_X3 rfl rfl (by decide) fl_X3_9 rfl rfl ?_
      refine g_iconst X dX3_takeFirst_22 (v := 0) (by decide) ?_
      obtain ⟨hb3, hf⟩ := hfg hf
      refine g_iald X (q0 := 11) (f := w.2 5) dX3_takeFirst_23 rfl hb3 ?_
      refine g_istore_n X (i := 1) dX3_takeFirst_24 rfl (by decide) rfl ?_
      refine g_aload_n X (i := 0) dX3_takeFirst_25 rfl rfl ?_
      refine g_dup X dX3_takeFirst_26 rfl ?_
      refine g_get X (q0 := 6) (v := .int (w.1 24)) 1 dX3_takeFirst_27 gC_X3 rfl rfl (by decide) fl_X3_15 rfl rfl ?_
      refine g_iconst X dX3_takeFirst_30 (v := 1) (by decide) ?_
      refine g_isub X dX3_takeFirst_31 ?_
      refine g_put X (q0 := 6) 1 dX3_takeFirst_32 gC_X3 rfl rfl (by decide) fl_X3_15 rfl rfl rfl rfl (Nat.le_of_ble_eq_true rfl) (pwS_24 ad cI _ _) ?_
      refine g_aload_n X (i := 0) dX3_takeFirst_35 rfl rfl ?_
      refine g_get X (q0 := 6) (v := .ref (ad 11)) 0 dX3_takeFirst_36 gC_X3 rfl rfl (by decide) fl_X3_9 rfl rfl ?_
      refine g_iconst X dX3_takeFirst_39 (v := 1) (by decide) ?_
      refine g_aload_n X (i := 0) dX3_takeFirst_40 rfl rfl ?_
      refine g_get X (q0 := 6) (v := .ref (ad 11)) 0 dX3_takeFirst_41 gC_X3 rfl rfl (by decide) fl_X3_9 rfl rfl ?_
      refine g_iconst X dX3_takeFirst_44 (v := 0) (by decide) ?_
      refine g_aload_n X (i := 0) dX3_takeFirst_45 rfl rfl ?_
      refine g_get X (q0 := 6) (v := .int ((w.1 24) - 1)) 1 dX3_takeFirst_46 gC_X3 rfl rfl (by decide) fl_X3_15 rfl rfl ?_
      obtain ⟨hb4, hf⟩ := hfg hf
      refine g_copy X (q0 := 11) (q1 := 11) (f := w.2 5) (g := w.2 5) dX3_takeFirst_49 ml_X3_23 nat_cp st_cp ini_cp rfl rfl hb4.1 hb4.2.1 hb4.2.2.1 hb4.2.2.2.1 hb4.2.2.2.2 ⟨Nat.le_of_ble_eq_true rfl, Nat.le_of_ble_eq_true rfl⟩ (gwS_5 ad cI _ _) ?_
      refine g_iload_n X (i := 1) dX3_takeFirst_52 rfl rfl ?_
      exact g_iret X hr dX3_takeFirst_53 hf
  · refine g_iconst X dX3_takeFirst_16 (v := (-1)) (by decide) ?_
    exact g_iret X hr dX3_takeFirst_17 hf
def f_X3_placeOf_5_L2 : Nat → Int32 → Int32 → St → Option (Int32 × St)
  | 0, _, _, _ => none
  | n + 1, x1, x2, w => (if x2 < (w.1 23) then (if x2 < 24 then if ib x2 24 then (if (w.2 4 x2.toNatClampNeg) = x1 then some (x2, w) else f_X3_placeOf_5_L2 n x1 (x2 + 1) w) else none else some ((-1), w)) else some ((-1), w))
def f_X3_placeOf_5 (x1 : Int32) (w : St) : Option (Int32 × St) := f_X3_placeOf_5_L2 BIG x1 0 w
set_option maxRecDepth 100000 in
set_option maxHeartbeats 4000000 in
theorem gl_X3_placeOf_5_L2 {p : Program} {l : Launch} {e : Env} {s : State} {m : MethodId} {args : Array Value} {below : List Frame} {meth : Method} {c : Code} {D : va_G} {A : Nat → Prop} {cI : ClassId × ClassId} {ad : Nat → Nat} {o : Int32 × St} (X : gX p s m args meth c cX3_placeOf 3 RX3 D cI) (hr : meth.sig.returnType = some .int) (n : Nat) : ∀ {x1 x2 : Int32} {w : St}, f_X3_placeOf_5_L2 n x1 x2 w = some o → G p l e rm_X3_placeOf s m args below meth c D A 3 (MQ below (qcI D A o.1 ((wS ad cI) o.2)) args s 0 0 A) (wS ad cI) 0 0 2 [some (.ref (ad 5)), some (.int x1), some (.int x2)] [] w := by
  induction n with
  | zero => intro x1 x2 w hf; cases hf
  | succ n ih =>
    intro x1 x2 w hf
    rw [f_X3_placeOf_5_L2] at hf
    refine g_iload_n X (i := 2) dX3_placeOf_2 rfl rfl ?_
    refine g_aload_n X (i := 0) dX3_placeOf_3 rfl rfl ?_
    refine g_get X (q0 := 5) (v := .int (w.1 23)) 1 dX3_placeOf_4 gC_X3 rfl rfl (by decide) fl_X3_15 rfl rfl ?_
    refine g_icmp_ge X dX3_placeOf_7 (tgt := 34) (by decide) hf (fun c1 hf => ?_) (fun c1 hf => ?_)
    · refine g_iload_n X (i := 2) dX3_placeOf_10 rfl rfl ?_
      refine g_bipush X dX3_placeOf_11 (v := 24) (by decide) ?_
      refine g_icmp_ge X dX3_placeOf_13 (tgt := 34) (by decide) hf (fun c2 hf => ?_) (fun c2 hf => ?_)
      · refine g_aload_n X (i := 0) dX3_placeOf_16 rfl rfl ?_
        refine g_get X (q0 := 5) (v := .ref (ad 10)) 0 dX3_placeOf_17 gC_X3 rfl rfl (by decide) fl_X3_9 rfl rfl ?_
        refine g_iload_n X (i := 2) dX3_placeOf_20 rfl rfl ?_
        obtain ⟨hb3, hf⟩ := hfg hf
        refine g_iald X (q0 := 10) (f := w.2 4) dX3_placeOf_21 rfl hb3 ?_
        refine g_iload_n X (i := 1) dX3_placeOf_22 rfl rfl ?_
        refine g_icmp_ne X dX3_placeOf_23 (tgt := 28) (by decide) hf (fun c4 hf => ?_) (fun c4 hf => ?_)
        · refine g_iload_n X (i := 2) dX3_placeOf_26 rfl rfl ?_
          exact g_iret X hr dX3_placeOf_27 hf
        · refine g_iinc X (i := 2) (v := 1) dX3_placeOf_28 rfl (by decide) (by decide) rfl ?_
          refine g_goto X dX3_placeOf_31 (tgt := 2) (by decide) ?_
          exact ih hf
      · refine g_iconst X dX3_placeOf_34 (v := (-1)) (by decide) ?_
        exact g_iret X hr dX3_placeOf_35 hf
    · refine g_iconst X dX3_placeOf_34 (v := (-1)) (by decide) ?_
      exact g_iret X hr dX3_placeOf_35 hf
set_option maxRecDepth 100000 in
set_option maxHeartbeats 4000000 in
theorem c_X3_placeOf_5 {l : Launch} {D : va_G} {cI : ClassId × ClassId} {A : Nat → Prop} {ad : Nat → Nat} {x1 : Int32} {w : St} {o : Int32 × St} (hf : f_X3_placeOf_5 x1 w = some o) : CTi l D cI A yX3_placeOf cX3_placeOf 3 (some .int) rm_X3_placeOf [.ref (ad 5), .int x1] ((wS ad cI) w) o.1 ((wS ad cI) o.2)   := by
  refine CTi.of (by decide +kernel) rfl (Nat.le_of_ble_eq_true rfl) ?_
  intro p e s m args below meth c X hr
  have X : gX p s m args meth c cX3_placeOf 3 RX3 D cI := X
  show G _ _ _ _ _ _ _ _ _ _ _ _ _ _ _ _ _ 0 [some (.ref (ad 5)), some (.int x1), none] [] w
  unfold f_X3_placeOf_5 at hf
  refine g_iconst X dX3_placeOf_0 (v := 0) (by decide) ?_
  refine g_istore_n X (i := 2) dX3_placeOf_1 rfl (by decide) rfl ?_
  exact gl_X3_placeOf_5_L2 X hr BIG hf
def f_X3_placeOf_6_L2 : Nat → Int32 → Int32 → St → Option (Int32 × St)
  | 0, _, _, _ => none
  | n + 1, x1, x2, w => (if x2 < (w.1 24) then (if x2 < 24 then if ib x2 24 then (if (w.2 5 x2.toNatClampNeg) = x1 then some (x2, w) else f_X3_placeOf_6_L2 n x1 (x2 + 1) w) else none else some ((-1), w)) else some ((-1), w))
def f_X3_placeOf_6 (x1 : Int32) (w : St) : Option (Int32 × St) := f_X3_placeOf_6_L2 BIG x1 0 w
set_option maxRecDepth 100000 in
set_option maxHeartbeats 4000000 in
theorem gl_X3_placeOf_6_L2 {p : Program} {l : Launch} {e : Env} {s : State} {m : MethodId} {args : Array Value} {below : List Frame} {meth : Method} {c : Code} {D : va_G} {A : Nat → Prop} {cI : ClassId × ClassId} {ad : Nat → Nat} {o : Int32 × St} (X : gX p s m args meth c cX3_placeOf 3 RX3 D cI) (hr : meth.sig.returnType = some .int) (n : Nat) : ∀ {x1 x2 : Int32} {w : St}, f_X3_placeOf_6_L2 n x1 x2 w = some o → G p l e rm_X3_placeOf s m args below meth c D A 3 (MQ below (qcI D A o.1 ((wS ad cI) o.2)) args s 0 0 A) (wS ad cI) 0 0 2 [some (.ref (ad 6)), some (.int x1), some (.int x2)] [] w := by
  induction n with
  | zero => intro x1 x2 w hf; cases hf
  | succ n ih =>
    intro x1 x2 w hf
    rw [f_X3_placeOf_6_L2] at hf
    refine g_iload_n X (i := 2) dX3_placeOf_2 rfl rfl ?_
    refine g_aload_n X (i := 0) dX3_placeOf_3 rfl rfl ?_
    refine g_get X (q0 := 6) (v := .int (w.1 24)) 1 dX3_placeOf_4 gC_X3 rfl rfl (by decide) fl_X3_15 rfl rfl ?_
    refine g_icmp_ge X dX3_placeOf_7 (tgt := 34) (by decide) hf (fun c1 hf => ?_) (fun c1 hf => ?_)
    · refine g_iload_n X (i := 2) dX3_placeOf_10 rfl rfl ?_
      refine g_bipush X dX3_placeOf_11 (v := 24) (by decide) ?_
      refine g_icmp_ge X dX3_placeOf_13 (tgt := 34) (by decide) hf (fun c2 hf => ?_) (fun c2 hf => ?_)
      · refine g_aload_n X (i := 0) dX3_placeOf_16 rfl rfl ?_
        refine g_get X (q0 := 6) (v := .ref (ad 11)) 0 dX3_placeOf_17 gC_X3 rfl rfl (by decide) fl_X3_9 rfl rfl ?_
        refine g_iload_n X (i := 2) dX3_placeOf_20 rfl rfl ?_
        obtain ⟨hb3, hf⟩ := hfg hf
        refine g_iald X (q0 := 11) (f := w.2 5) dX3_placeOf_21 rfl hb3 ?_
        refine g_iload_n X (i := 1) dX3_placeOf_22 rfl rfl ?_
        refine g_icmp_ne X dX3_placeOf_23 (tgt := 28) (by decide) hf (fun c4 hf => ?_) (fun c4 hf => ?_)
        · refine g_iload_n X (i := 2) dX3_placeOf_26 rfl rfl ?_
          exact g_iret X hr dX3_placeOf_27 hf
        · refine g_iinc X (i := 2) (v := 1) dX3_placeOf_28 rfl (by decide) (by decide) rfl ?_
          refine g_goto X dX3_placeOf_31 (tgt := 2) (by decide) ?_
          exact ih hf
      · refine g_iconst X dX3_placeOf_34 (v := (-1)) (by decide) ?_
        exact g_iret X hr dX3_placeOf_35 hf
    · refine g_iconst X dX3_placeOf_34 (v := (-1)) (by decide) ?_
      exact g_iret X hr dX3_placeOf_35 hf
set_option maxRecDepth 100000 in
set_option maxHeartbeats 4000000 in
theorem c_X3_placeOf_6 {l : Launch} {D : va_G} {cI : ClassId × ClassId} {A : Nat → Prop} {ad : Nat → Nat} {x1 : Int32} {w : St} {o : Int32 × St} (hf : f_X3_placeOf_6 x1 w = some o) : CTi l D cI A yX3_placeOf cX3_placeOf 3 (some .int) rm_X3_placeOf [.ref (ad 6), .int x1] ((wS ad cI) w) o.1 ((wS ad cI) o.2)   := by
  refine CTi.of (by decide +kernel) rfl (Nat.le_of_ble_eq_true rfl) ?_
  intro p e s m args below meth c X hr
  have X : gX p s m args meth c cX3_placeOf 3 RX3 D cI := X
  show G _ _ _ _ _ _ _ _ _ _ _ _ _ _ _ _ _ 0 [some (.ref (ad 6)), some (.int x1), none] [] w
  unfold f_X3_placeOf_6 at hf
  refine g_iconst X dX3_placeOf_0 (v := 0) (by decide) ?_
  refine g_istore_n X (i := 2) dX3_placeOf_1 rfl (by decide) rfl ?_
  exact gl_X3_placeOf_6_L2 X hr BIG hf
def f_X3_asSet_5_L4 : Nat → Int32 → Int32 → St → Option (Int32 × St)
  | 0, _, _, _ => none
  | n + 1, x1, x2, w => (if x2 < (w.1 23) then (if x2 < 24 then if ib x2 24 then (f_X6_bit (w.2 4 x2.toNatClampNeg) w).bind fun o4 => f_X3_asSet_5_L4 n (x1 ||| o4.1) (x2 + 1) o4.2 else none else some (x1, w)) else some (x1, w))
def f_X3_asSet_5 (w : St) : Option (Int32 × St) := (f_X3_asSet_5_L4 BIG 0 0 w).bind fun o6 => some (o6.1, o6.2)
set_option maxRecDepth 100000 in
set_option maxHeartbeats 4000000 in
theorem gl_X3_asSet_5_L4 {p : Program} {l : Launch} {e : Env} {s : State} {m : MethodId} {args : Array Value} {below : List Frame} {meth : Method} {c : Code} {D : va_G} {A : Nat → Prop} {cI : ClassId × ClassId} {ad : Nat → Nat} {Q : State → Prop} {o : Int32 × St} (X : gX p s m args meth c cX3_asSet 3 RX3 D cI) (n : Nat) : ∀ {x1 x2 : Int32} {w : St}, f_X3_asSet_5_L4 n x1 x2 w = some o → G p l e rm_X3_asSet s m args below meth c D A 3 Q (wS ad cI) 0 0 36 [none, some (.int o.1), none] [] o.2 → G p l e rm_X3_asSet s m args below meth c D A 3 Q (wS ad cI) 0 0 4 [some (.ref (ad 5)), some (.int x1), some (.int x2)] [] w := by
  induction n with
  | zero => intro x1 x2 w hf; cases hf
  | succ n ih =>
    intro x1 x2 w hf k
    rw [f_X3_asSet_5_L4] at hf
    refine g_iload_n X (i := 2) dX3_asSet_4 rfl rfl ?_
    refine g_aload_n X (i := 0) dX3_asSet_5 rfl rfl ?_
    refine g_get X (q0 := 5) (v := .int (w.1 23)) 1 dX3_asSet_6 gC_X3 rfl rfl (by decide) fl_X3_15 rfl rfl ?_
    refine g_icmp_ge X dX3_asSet_9 (tgt := 36) (by decide) hf (fun c1 hf => ?_) (fun c1 hf => ?_)
    · refine g_iload_n X (i := 2) dX3_asSet_12 rfl rfl ?_
      refine g_bipush X dX3_asSet_13 (v := 24) (by decide) ?_
      refine g_icmp_ge X dX3_asSet_15 (tgt := 36) (by decide) hf (fun c2 hf => ?_) (fun c2 hf => ?_)
      · refine g_iload_n X (i := 1) dX3_asSet_18 rfl rfl ?_
        refine g_aload_n X (i := 0) dX3_asSet_19 rfl rfl ?_
        refine g_get X (q0 := 5) (v := .ref (ad 10)) 0 dX3_asSet_20 gC_X3 rfl rfl (by decide) fl_X3_9 rfl rfl ?_
        refine g_iload_n X (i := 2) dX3_asSet_23 rfl rfl ?_
        obtain ⟨hb3, hf⟩ := hfg hf
        refine g_iald X (q0 := 10) (f := w.2 4) dX3_asSet_24 rfl hb3 ?_
        obtain ⟨o4, h5, hf⟩ := hfb hf
        refine g_Ni X (As := [.int (w.2 4 x2.toNatClampNeg)]) (rest := [.int x1]) (c_X6_bit (wf := (wS ad cI)) h5) dX3_asSet_25 ml_X3_29 yv_X6_bit rfl rfl ⟨Nat.le_of_ble_eq_true rfl, Nat.le_of_ble_eq_true rfl⟩ ⟨rfl, rfl⟩ (Nat.le_of_ble_eq_true rfl) ⟨Nat.le_of_ble_eq_true rfl, Nat.le_of_ble_eq_true rfl⟩ ?_
        refine g_ior X dX3_asSet_28 ?_
        refine g_istore_n X (i := 1) dX3_asSet_29 rfl (by decide) rfl ?_
        refine g_iinc X (i := 2) (v := 1) dX3_asSet_30 rfl (by decide) (by decide) rfl ?_
        refine g_goto X dX3_asSet_33 (tgt := 4) (by decide) ?_
        exact ih hf k
      · obtain rfl := Option.some.inj hf
        refine g_sub (losub (lo' := [none, some (.int x1), none]) ⟨rfl, trivial⟩) ?_
        exact k
    · obtain rfl := Option.some.inj hf
      refine g_sub (losub (lo' := [none, some (.int x1), none]) ⟨rfl, trivial⟩) ?_
      exact k
set_option maxRecDepth 100000 in
set_option maxHeartbeats 4000000 in
theorem c_X3_asSet_5 {l : Launch} {D : va_G} {cI : ClassId × ClassId} {A : Nat → Prop} {ad : Nat → Nat} {w : St} {o : Int32 × St} (hf : f_X3_asSet_5 w = some o) : CTi l D cI A yX3_asSet cX3_asSet 3 (some .int) rm_X3_asSet [.ref (ad 5)] ((wS ad cI) w) o.1 ((wS ad cI) o.2)   := by
  refine CTi.of (by decide +kernel) rfl (Nat.le_of_ble_eq_true rfl) ?_
  intro p e s m args below meth c X hr
  have X : gX p s m args meth c cX3_asSet 3 RX3 D cI := X
  show G _ _ _ _ _ _ _ _ _ _ _ _ _ _ _ _ _ 0 [some (.ref (ad 5)), none, none] [] w
  unfold f_X3_asSet_5 at hf
  refine g_iconst X dX3_asSet_0 (v := 0) (by decide) ?_
  refine g_istore_n X (i := 1) dX3_asSet_1 rfl (by decide) rfl ?_
  refine g_iconst X dX3_asSet_2 (v := 0) (by decide) ?_
  refine g_istore_n X (i := 2) dX3_asSet_3 rfl (by decide) rfl ?_
  obtain ⟨o6, h7, hf⟩ := hfb hf
  refine gl_X3_asSet_5_L4 X BIG h7 ?_
  refine g_iload_n X (i := 1) dX3_asSet_36 rfl rfl ?_
  exact g_iret X hr dX3_asSet_37 hf
def f_X3_asSet_6_L4 : Nat → Int32 → Int32 → St → Option (Int32 × St)
  | 0, _, _, _ => none
  | n + 1, x1, x2, w => (if x2 < (w.1 24) then (if x2 < 24 then if ib x2 24 then (f_X6_bit (w.2 5 x2.toNatClampNeg) w).bind fun o4 => f_X3_asSet_6_L4 n (x1 ||| o4.1) (x2 + 1) o4.2 else none else some (x1, w)) else some (x1, w))
def f_X3_asSet_6 (w : St) : Option (Int32 × St) := (f_X3_asSet_6_L4 BIG 0 0 w).bind fun o6 => some (o6.1, o6.2)
set_option maxRecDepth 100000 in
set_option maxHeartbeats 4000000 in
theorem gl_X3_asSet_6_L4 {p : Program} {l : Launch} {e : Env} {s : State} {m : MethodId} {args : Array Value} {below : List Frame} {meth : Method} {c : Code} {D : va_G} {A : Nat → Prop} {cI : ClassId × ClassId} {ad : Nat → Nat} {Q : State → Prop} {o : Int32 × St} (X : gX p s m args meth c cX3_asSet 3 RX3 D cI) (n : Nat) : ∀ {x1 x2 : Int32} {w : St}, f_X3_asSet_6_L4 n x1 x2 w = some o → G p l e rm_X3_asSet s m args below meth c D A 3 Q (wS ad cI) 0 0 36 [none, some (.int o.1), none] [] o.2 → G p l e rm_X3_asSet s m args below meth c D A 3 Q (wS ad cI) 0 0 4 [some (.ref (ad 6)), some (.int x1), some (.int x2)] [] w := by
  induction n with
  | zero => intro x1 x2 w hf; cases hf
  | succ n ih =>
    intro x1 x2 w hf k
    rw [f_X3_asSet_6_L4] at hf
    refine g_iload_n X (i := 2) dX3_asSet_4 rfl rfl ?_
    refine g_aload_n X (i := 0) dX3_asSet_5 rfl rfl ?_
    refine g_get X (q0 := 6) (v := .int (w.1 24)) 1 dX3_asSet_6 gC_X3 rfl rfl (by decide) fl_X3_15 rfl rfl ?_
    refine g_icmp_ge X dX3_asSet_9 (tgt := 36) (by decide) hf (fun c1 hf => ?_) (fun c1 hf => ?_)
    · refine g_iload_n X (i := 2) dX3_asSet_12 rfl rfl ?_
      refine g_bipush X dX3_asSet_13 (v := 24) (by decide) ?_
      refine g_icmp_ge X dX3_asSet_15 (tgt := 36) (by decide) hf (fun c2 hf => ?_) (fun c2 hf => ?_)
      · refine g_iload_n X (i := 1) dX3_asSet_18 rfl rfl ?_
        refine g_aload_n X (i := 0) dX3_asSet_19 rfl rfl ?_
        refine g_get X (q0 := 6) (v := .ref (ad 11)) 0 dX3_asSet_20 gC_X3 rfl rfl (by decide) fl_X3_9 rfl rfl ?_
        refine g_iload_n X (i := 2) dX3_asSet_23 rfl rfl ?_
        obtain ⟨hb3, hf⟩ := hfg hf
        refine g_iald X (q0 := 11) (f := w.2 5) dX3_asSet_24 rfl hb3 ?_
        obtain ⟨o4, h5, hf⟩ := hfb hf
        refine g_Ni X (As := [.int (w.2 5 x2.toNatClampNeg)]) (rest := [.int x1]) (c_X6_bit (wf := (wS ad cI)) h5) dX3_asSet_25 ml_X3_29 yv_X6_bit rfl rfl ⟨Nat.le_of_ble_eq_true rfl, Nat.le_of_ble_eq_true rfl⟩ ⟨rfl, rfl⟩ (Nat.le_of_ble_eq_true rfl) ⟨Nat.le_of_ble_eq_true rfl, Nat.le_of_ble_eq_true rfl⟩ ?_
        refine g_ior X dX3_asSet_28 ?_
        refine g_istore_n X (i := 1) dX3_asSet_29 rfl (by decide) rfl ?_
        refine g_iinc X (i := 2) (v := 1) dX3_asSet_30 rfl (by decide) (by decide) rfl ?_
        refine g_goto X dX3_asSet_33 (tgt := 4) (by decide) ?_
        exact ih hf k
      · obtain rfl := Option.some.inj hf
        refine g_sub (losub (lo' := [none, some (.int x1), none]) ⟨rfl, trivial⟩) ?_
        exact k
    · obtain rfl := Option.some.inj hf
      refine g_sub (losub (lo' := [none, some (.int x1), none]) ⟨rfl, trivial⟩) ?_
      exact k
set_option maxRecDepth 100000 in
set_option maxHeartbeats 4000000 in
theorem c_X3_asSet_6 {l : Launch} {D : va_G} {cI : ClassId × ClassId} {A : Nat → Prop} {ad : Nat → Nat} {w : St} {o : Int32 × St} (hf : f_X3_asSet_6 w = some o) : CTi l D cI A yX3_asSet cX3_asSet 3 (some .int) rm_X3_asSet [.ref (ad 6)] ((wS ad cI) w) o.1 ((wS ad cI) o.2)   := by
  refine CTi.of (by decide +kernel) rfl (Nat.le_of_ble_eq_true rfl) ?_
  intro p e s m args below meth c X hr
  have X : gX p s m args meth c cX3_asSet 3 RX3 D cI := X
  show G _ _ _ _ _ _ _ _ _ _ _ _ _ _ _ _ _ 0 [some (.ref (ad 6)), none, none] [] w
  unfold f_X3_asSet_6 at hf
  refine g_iconst X dX3_asSet_0 (v := 0) (by decide) ?_
  refine g_istore_n X (i := 1) dX3_asSet_1 rfl (by decide) rfl ?_
  refine g_iconst X dX3_asSet_2 (v := 0) (by decide) ?_
  refine g_istore_n X (i := 2) dX3_asSet_3 rfl (by decide) rfl ?_
  obtain ⟨o6, h7, hf⟩ := hfb hf
  refine gl_X3_asSet_6_L4 X BIG h7 ?_
  refine g_iload_n X (i := 1) dX3_asSet_36 rfl rfl ?_
  exact g_iret X hr dX3_asSet_37 hf
def f_X1_has (x1 : Int32) (w : St) : Option (Int32 × St) := (f_X6_bit x1 w).bind fun o1 => (if ((w.1 13) &&& o1.1) = 0 then some (0, o1.2) else some (1, o1.2))
set_option maxRecDepth 100000 in
set_option maxHeartbeats 4000000 in
theorem c_X1_has {l : Launch} {D : va_G} {cI : ClassId × ClassId} {A : Nat → Prop} {ad : Nat → Nat} {x1 : Int32} {w : St} {o : Int32 × St} (hf : f_X1_has x1 w = some o) : CTi l D cI A yX1_has cX1_has 2 (some .boolean) rm_X1_has [.ref (ad 3), .int x1] ((wS ad cI) w) o.1 ((wS ad cI) o.2)   := by
  refine CTi.of (by decide +kernel) rfl (Nat.le_of_ble_eq_true rfl) ?_
  intro p e s m args below meth c X hr
  have X : gX p s m args meth c cX1_has 2 RX1 D cI := X
  show G _ _ _ _ _ _ _ _ _ _ _ _ _ _ _ _ _ 0 [some (.ref (ad 3)), some (.int x1)] [] w
  unfold f_X1_has at hf
  refine g_aload_n X (i := 0) dX1_has_0 rfl rfl ?_
  refine g_get X (q0 := 3) (v := .int (w.1 13)) 0 dX1_has_1 gC_X1 rfl rfl (by decide) fl_X1_34 rfl rfl ?_
  refine g_iload_n X (i := 1) dX1_has_4 rfl rfl ?_
  obtain ⟨o1, h2, hf⟩ := hfb hf
  refine g_Ni X (As := [.int x1]) (rest := [.int (w.1 13)]) (c_X6_bit (wf := (wS ad cI)) h2) dX1_has_5 ml_X1_38 yv_X6_bit rfl rfl ⟨Nat.le_of_ble_eq_true rfl, Nat.le_of_ble_eq_true rfl⟩ ⟨rfl, rfl⟩ (Nat.le_of_ble_eq_true rfl) ⟨Nat.le_of_ble_eq_true rfl, Nat.le_of_ble_eq_true rfl⟩ ?_
  refine g_iand X dX1_has_8 ?_
  refine g_if_eq X dX1_has_9 (tgt := 16) (by decide) hf (fun c3 hf => ?_) (fun c3 hf => ?_)
  · refine g_iconst X dX1_has_16 (v := 0) (by decide) ?_
    exact g_zret X hr dX1_has_17 rfl hf
  · refine g_iconst X dX1_has_12 (v := 1) (by decide) ?_
    refine g_goto X dX1_has_13 (tgt := 17) (by decide) ?_
    exact g_zret X hr dX1_has_17 rfl hf
def f_X1_hasOrNone (x1 : Int32) (w : St) : Option (Int32 × St) := (if x1 = (-1) then some (1, w) else (f_X1_has x1 w).bind fun o2 => (if o2.1 = 0 then some (0, o2.2) else some (1, o2.2)))
set_option maxRecDepth 100000 in
set_option maxHeartbeats 4000000 in
theorem c_X1_hasOrNone {l : Launch} {D : va_G} {cI : ClassId × ClassId} {A : Nat → Prop} {ad : Nat → Nat} {x1 : Int32} {w : St} {o : Int32 × St} (hf : f_X1_hasOrNone x1 w = some o) : CTi l D cI A yX1_hasOrNone cX1_hasOrNone 2 (some .boolean) rm_X1_hasOrNone [.ref (ad 3), .int x1] ((wS ad cI) w) o.1 ((wS ad cI) o.2)   := by
  refine CTi.of (by decide +kernel) rfl (Nat.le_of_ble_eq_true rfl) ?_
  intro p e s m args below meth c X hr
  have X : gX p s m args meth c cX1_hasOrNone 2 RX1 D cI := X
  show G _ _ _ _ _ _ _ _ _ _ _ _ _ _ _ _ _ 0 [some (.ref (ad 3)), some (.int x1)] [] w
  unfold f_X1_hasOrNone at hf
  refine g_iload_n X (i := 1) dX1_hasOrNone_0 rfl rfl ?_
  refine g_iconst X dX1_hasOrNone_1 (v := (-1)) (by decide) ?_
  refine g_icmp_eq X dX1_hasOrNone_2 (tgt := 13) (by decide) hf (fun c1 hf => ?_) (fun c1 hf => ?_)
  · refine g_iconst X dX1_hasOrNone_13 (v := 1) (by decide) ?_
    refine g_goto X dX1_hasOrNone_14 (tgt := 18) (by decide) ?_
    exact g_zret X hr dX1_hasOrNone_18 rfl hf
  · refine g_aload_n X (i := 0) dX1_hasOrNone_5 rfl rfl ?_
    refine g_iload_n X (i := 1) dX1_hasOrNone_6 rfl rfl ?_
    obtain ⟨o2, h3, hf⟩ := hfb hf
    refine g_Vi X (q0 := 3) (As := [.int x1]) (rest := []) (c_X1_has h3) dX1_hasOrNone_7 ml_X1_42 yv_X1_has rfl rfl rfl rfl ⟨Nat.le_of_ble_eq_true rfl, Nat.le_of_ble_eq_true rfl⟩ ⟨rfl, rfl⟩ (Nat.le_of_ble_eq_true rfl) ⟨Nat.le_of_ble_eq_true rfl, Nat.le_of_ble_eq_true rfl⟩ ?_
    refine g_if_eq X dX1_hasOrNone_10 (tgt := 17) (by decide) hf (fun c4 hf => ?_) (fun c4 hf => ?_)
    · refine g_iconst X dX1_hasOrNone_17 (v := 0) (by decide) ?_
      exact g_zret X hr dX1_hasOrNone_18 rfl hf
    · refine g_iconst X dX1_hasOrNone_13 (v := 1) (by decide) ?_
      refine g_goto X dX1_hasOrNone_14 (tgt := 18) (by decide) ?_
      exact g_zret X hr dX1_hasOrNone_18 rfl hf
def f_X1_size (w : St) : Option (Int32 × St) := (f_J6_bitCount_0f7a4 (w.1 13) w).bind fun o1 => some (o1.1, o1.2)
set_option maxRecDepth 100000 in
set_option maxHeartbeats 4000000 in
theorem c_X1_size {l : Launch} {D : va_G} {cI : ClassId × ClassId} {A : Nat → Prop} {ad : Nat → Nat} {w : St} {o : Int32 × St} (hf : f_X1_size w = some o) : CTi l D cI A yX1_size cX1_size 1 (some .int) rm_X1_size [.ref (ad 3)] ((wS ad cI) w) o.1 ((wS ad cI) o.2)   := by
  refine CTi.of (by decide +kernel) rfl (Nat.le_of_ble_eq_true rfl) ?_
  intro p e s m args below meth c X hr
  have X : gX p s m args meth c cX1_size 1 RX1 D cI := X
  show G _ _ _ _ _ _ _ _ _ _ _ _ _ _ _ _ _ 0 [some (.ref (ad 3))] [] w
  unfold f_X1_size at hf
  refine g_aload_n X (i := 0) dX1_size_0 rfl rfl ?_
  refine g_get X (q0 := 3) (v := .int (w.1 13)) 0 dX1_size_1 gC_X1 rfl rfl (by decide) fl_X1_34 rfl rfl ?_
  obtain ⟨o1, h2, hf⟩ := hfb hf
  refine g_Si X (As := [.int (w.1 13)]) (rest := []) (c_J6_bitCount_0f7a4 (wf := (wS ad cI)) h2) dX1_size_4 ml_X1_46 yv_J6_bitCount_0f7a4 rfl rfl ⟨Nat.le_of_ble_eq_true rfl, Nat.le_of_ble_eq_true rfl⟩ ⟨rfl, rfl⟩ (Nat.le_of_ble_eq_true rfl) ⟨Nat.le_of_ble_eq_true rfl, Nat.le_of_ble_eq_true rfl⟩ ?_
  exact g_iret X hr dX1_size_7 hf
def f_X1_fieldOf (x1 x2 : Int32) (w : St) : Option (Int32 × St) := (f_X6_isIn x1 24 w).bind fun o1 => (if o1.1 = 0 then some ((-1), o1.2) else (f_X6_isIn x2 3 o1.2).bind fun o4 => (if o4.1 = 0 then some ((-1), o4.2) else if ib ((x1 * 3) + x2) 72 then some (o4.2.2 1 ((x1 * 3) + x2).toNatClampNeg, o4.2) else none))
set_option maxRecDepth 100000 in
set_option maxHeartbeats 4000000 in
theorem c_X1_fieldOf {l : Launch} {D : va_G} {cI : ClassId × ClassId} {A : Nat → Prop} {ad : Nat → Nat} {x1 x2 : Int32} {w : St} {o : Int32 × St} (hf : f_X1_fieldOf x1 x2 w = some o) : CTi l D cI A yX1_fieldOf cX1_fieldOf 3 (some .int) rm_X1_fieldOf [.ref (ad 3), .int x1, .int x2] ((wS ad cI) w) o.1 ((wS ad cI) o.2)   := by
  refine CTi.of (by decide +kernel) rfl (Nat.le_of_ble_eq_true rfl) ?_
  intro p e s m args below meth c X hr
  have X : gX p s m args meth c cX1_fieldOf 3 RX1 D cI := X
  show G _ _ _ _ _ _ _ _ _ _ _ _ _ _ _ _ _ 0 [some (.ref (ad 3)), some (.int x1), some (.int x2)] [] w
  unfold f_X1_fieldOf at hf
  refine g_iload_n X (i := 1) dX1_fieldOf_0 rfl rfl ?_
  refine g_bipush X dX1_fieldOf_1 (v := 24) (by decide) ?_
  obtain ⟨o1, h2, hf⟩ := hfb hf
  refine g_Ni X (As := [.int x1, .int 24]) (rest := []) (c_X6_isIn (wf := (wS ad cI)) h2) dX1_fieldOf_3 ml_X1_51 yv_X6_isIn rfl rfl ⟨Nat.le_of_ble_eq_true rfl, Nat.le_of_ble_eq_true rfl⟩ ⟨rfl, rfl⟩ (Nat.le_of_ble_eq_true rfl) ⟨Nat.le_of_ble_eq_true rfl, Nat.le_of_ble_eq_true rfl⟩ ?_
  refine g_if_eq X dX1_fieldOf_6 (tgt := 30) (by decide) hf (fun c3 hf => ?_) (fun c3 hf => ?_)
  · refine g_iconst X dX1_fieldOf_30 (v := (-1)) (by decide) ?_
    exact g_iret X hr dX1_fieldOf_31 hf
  · refine g_iload_n X (i := 2) dX1_fieldOf_9 rfl rfl ?_
    refine g_iconst X dX1_fieldOf_10 (v := 3) (by decide) ?_
    obtain ⟨o4, h5, hf⟩ := hfb hf
    refine g_Ni X (As := [.int x2, .int 3]) (rest := []) (c_X6_isIn (wf := (wS ad cI)) h5) dX1_fieldOf_11 ml_X1_51 yv_X6_isIn rfl rfl ⟨Nat.le_of_ble_eq_true rfl, Nat.le_of_ble_eq_true rfl⟩ ⟨rfl, rfl⟩ (Nat.le_of_ble_eq_true rfl) ⟨Nat.le_of_ble_eq_true rfl, Nat.le_of_ble_eq_true rfl⟩ ?_
    refine g_if_eq X dX1_fieldOf_14 (tgt := 30) (by decide) hf (fun c6 hf => ?_) (fun c6 hf => ?_)
    · refine g_iconst X dX1_fieldOf_30 (v := (-1)) (by decide) ?_
      exact g_iret X hr dX1_fieldOf_31 hf
    · refine g_aload_n X (i := 0) dX1_fieldOf_17 rfl rfl ?_
      refine g_get X (q0 := 3) (v := .ref (ad 7)) 2 dX1_fieldOf_18 gC_X1 rfl rfl (by decide) fl_X1_9 rfl rfl ?_
      refine g_iload_n X (i := 1) dX1_fieldOf_21 rfl rfl ?_
      refine g_iconst X dX1_fieldOf_22 (v := 3) (by decide) ?_
      refine g_imul X dX1_fieldOf_23 ?_
      refine g_iload_n X (i := 2) dX1_fieldOf_24 rfl rfl ?_
      refine g_iadd X dX1_fieldOf_25 ?_
      obtain ⟨hb7, hf⟩ := hfg hf
      refine g_iald X (q0 := 7) (f := o4.2.2 1) dX1_fieldOf_26 rfl hb7 ?_
      refine g_goto X dX1_fieldOf_27 (tgt := 31) (by decide) ?_
      exact g_iret X hr dX1_fieldOf_31 hf
def f_X1_setField (x1 x2 x3 : Int32) (w : St) : Option (Int32 × St) := (if x1 < 0 then some (0, w) else (if x1 < 24 then (if x2 < 0 then some (0, w) else (if x2 < 3 then if ib ((x1 * 3) + x2) 72 then some (0, sA w 1 ((x1 * 3) + x2) x3) else none else some (0, w))) else some (0, w)))
set_option maxRecDepth 100000 in
set_option maxHeartbeats 4000000 in
theorem c_X1_setField {l : Launch} {D : va_G} {cI : ClassId × ClassId} {A : Nat → Prop} {ad : Nat → Nat} {x1 x2 x3 : Int32} {w : St} {o : Int32 × St} (hf : f_X1_setField x1 x2 x3 w = some o) : CTv l D cI A yX1_setField cX1_setField 4 (none) rm_X1_setField [.ref (ad 3), .int x1, .int x2, .int x3] ((wS ad cI) w) ((wS ad cI) o.2)   := by
  refine CTv.of (by decide +kernel) rfl (Nat.le_of_ble_eq_true rfl) ?_
  intro p e s m args below meth c X hr
  have X : gX p s m args meth c cX1_setField 4 RX1 D cI := X
  show G _ _ _ _ _ _ _ _ _ _ _ _ _ _ _ _ _ 0 [some (.ref (ad 3)), some (.int x1), some (.int x2), some (.int x3)] [] w
  unfold f_X1_setField at hf
  refine g_iload_n X (i := 1) dX1_setField_0 rfl rfl ?_
  refine g_if_lt X dX1_setField_1 (tgt := 30) (by decide) hf (fun c1 hf => ?_) (fun c1 hf => ?_)
  · exact g_vret X hr dX1_setField_30 hf
  · refine g_iload_n X (i := 1) dX1_setField_4 rfl rfl ?_
    refine g_bipush X dX1_setField_5 (v := 24) (by decide) ?_
    refine g_icmp_ge X dX1_setField_7 (tgt := 30) (by decide) hf (fun c2 hf => ?_) (fun c2 hf => ?_)
    · refine g_iload_n X (i := 2) dX1_setField_10 rfl rfl ?_
      refine g_if_lt X dX1_setField_11 (tgt := 30) (by decide) hf (fun c3 hf => ?_) (fun c3 hf => ?_)
      · exact g_vret X hr dX1_setField_30 hf
      · refine g_iload_n X (i := 2) dX1_setField_14 rfl rfl ?_
        refine g_iconst X dX1_setField_15 (v := 3) (by decide) ?_
        refine g_icmp_ge X dX1_setField_16 (tgt := 30) (by decide) hf (fun c4 hf => ?_) (fun c4 hf => ?_)
        · refine g_aload_n X (i := 0) dX1_setField_19 rfl rfl ?_
          refine g_get X (q0 := 3) (v := .ref (ad 7)) 2 dX1_setField_20 gC_X1 rfl rfl (by decide) fl_X1_9 rfl rfl ?_
          refine g_iload_n X (i := 1) dX1_setField_23 rfl rfl ?_
          refine g_iconst X dX1_setField_24 (v := 3) (by decide) ?_
          refine g_imul X dX1_setField_25 ?_
          refine g_iload_n X (i := 2) dX1_setField_26 rfl rfl ?_
          refine g_iadd X dX1_setField_27 ?_
          refine g_iload_n X (i := 3) dX1_setField_28 rfl rfl ?_
          obtain ⟨hb5, hf⟩ := hfg hf
          refine g_iast X (q0 := 7) (f := w.2 1) dX1_setField_29 rfl hb5 (awS_1 ad cI _ _ _) ?_
          exact g_vret X hr dX1_setField_30 hf
        · exact g_vret X hr dX1_setField_30 hf
    · exact g_vret X hr dX1_setField_30 hf
def f_X1_rootAt (x1 : Int32) (w : St) : Option (Int32 × St) := (f_X6_isIn x1 4 w).bind fun o1 => (if o1.1 = 0 then some ((-1), o1.2) else if ib x1 4 then some (o1.2.2 2 x1.toNatClampNeg, o1.2) else none)
set_option maxRecDepth 100000 in
set_option maxHeartbeats 4000000 in
theorem c_X1_rootAt {l : Launch} {D : va_G} {cI : ClassId × ClassId} {A : Nat → Prop} {ad : Nat → Nat} {x1 : Int32} {w : St} {o : Int32 × St} (hf : f_X1_rootAt x1 w = some o) : CTi l D cI A yX1_rootAt cX1_rootAt 2 (some .int) rm_X1_rootAt [.ref (ad 3), .int x1] ((wS ad cI) w) o.1 ((wS ad cI) o.2)   := by
  refine CTi.of (by decide +kernel) rfl (Nat.le_of_ble_eq_true rfl) ?_
  intro p e s m args below meth c X hr
  have X : gX p s m args meth c cX1_rootAt 2 RX1 D cI := X
  show G _ _ _ _ _ _ _ _ _ _ _ _ _ _ _ _ _ 0 [some (.ref (ad 3)), some (.int x1)] [] w
  unfold f_X1_rootAt at hf
  refine g_iload_n X (i := 1) dX1_rootAt_0 rfl rfl ?_
  refine g_iconst X dX1_rootAt_1 (v := 4) (by decide) ?_
  obtain ⟨o1, h2, hf⟩ := hfb hf
  refine g_Ni X (As := [.int x1, .int 4]) (rest := []) (c_X6_isIn (wf := (wS ad cI)) h2) dX1_rootAt_2 ml_X1_51 yv_X6_isIn rfl rfl ⟨Nat.le_of_ble_eq_true rfl, Nat.le_of_ble_eq_true rfl⟩ ⟨rfl, rfl⟩ (Nat.le_of_ble_eq_true rfl) ⟨Nat.le_of_ble_eq_true rfl, Nat.le_of_ble_eq_true rfl⟩ ?_
  refine g_if_eq X dX1_rootAt_5 (tgt := 17) (by decide) hf (fun c3 hf => ?_) (fun c3 hf => ?_)
  · refine g_iconst X dX1_rootAt_17 (v := (-1)) (by decide) ?_
    exact g_iret X hr dX1_rootAt_18 hf
  · refine g_aload_n X (i := 0) dX1_rootAt_8 rfl rfl ?_
    refine g_get X (q0 := 3) (v := .ref (ad 8)) 3 dX1_rootAt_9 gC_X1 rfl rfl (by decide) fl_X1_15 rfl rfl ?_
    refine g_iload_n X (i := 1) dX1_rootAt_12 rfl rfl ?_
    obtain ⟨hb4, hf⟩ := hfg hf
    refine g_iald X (q0 := 8) (f := o1.2.2 2) dX1_rootAt_13 rfl hb4 ?_
    refine g_goto X dX1_rootAt_14 (tgt := 18) (by decide) ?_
    exact g_iret X hr dX1_rootAt_18 hf
def f_X1_holderAt (x1 : Int32) (w : St) : Option (Int32 × St) := (f_X6_isIn x1 4 w).bind fun o1 => (if o1.1 = 0 then some ((-1), o1.2) else if ib x1 4 then some (o1.2.2 3 x1.toNatClampNeg, o1.2) else none)
set_option maxRecDepth 100000 in
set_option maxHeartbeats 4000000 in
theorem c_X1_holderAt {l : Launch} {D : va_G} {cI : ClassId × ClassId} {A : Nat → Prop} {ad : Nat → Nat} {x1 : Int32} {w : St} {o : Int32 × St} (hf : f_X1_holderAt x1 w = some o) : CTi l D cI A yX1_holderAt cX1_holderAt 2 (some .int) rm_X1_holderAt [.ref (ad 3), .int x1] ((wS ad cI) w) o.1 ((wS ad cI) o.2)   := by
  refine CTi.of (by decide +kernel) rfl (Nat.le_of_ble_eq_true rfl) ?_
  intro p e s m args below meth c X hr
  have X : gX p s m args meth c cX1_holderAt 2 RX1 D cI := X
  show G _ _ _ _ _ _ _ _ _ _ _ _ _ _ _ _ _ 0 [some (.ref (ad 3)), some (.int x1)] [] w
  unfold f_X1_holderAt at hf
  refine g_iload_n X (i := 1) dX1_holderAt_0 rfl rfl ?_
  refine g_iconst X dX1_holderAt_1 (v := 4) (by decide) ?_
  obtain ⟨o1, h2, hf⟩ := hfb hf
  refine g_Ni X (As := [.int x1, .int 4]) (rest := []) (c_X6_isIn (wf := (wS ad cI)) h2) dX1_holderAt_2 ml_X1_51 yv_X6_isIn rfl rfl ⟨Nat.le_of_ble_eq_true rfl, Nat.le_of_ble_eq_true rfl⟩ ⟨rfl, rfl⟩ (Nat.le_of_ble_eq_true rfl) ⟨Nat.le_of_ble_eq_true rfl, Nat.le_of_ble_eq_true rfl⟩ ?_
  refine g_if_eq X dX1_holderAt_5 (tgt := 17) (by decide) hf (fun c3 hf => ?_) (fun c3 hf => ?_)
  · refine g_iconst X dX1_holderAt_17 (v := (-1)) (by decide) ?_
    exact g_iret X hr dX1_holderAt_18 hf
  · refine g_aload_n X (i := 0) dX1_holderAt_8 rfl rfl ?_
    refine g_get X (q0 := 3) (v := .ref (ad 9)) 4 dX1_holderAt_9 gC_X1 rfl rfl (by decide) fl_X1_18 rfl rfl ?_
    refine g_iload_n X (i := 1) dX1_holderAt_12 rfl rfl ?_
    obtain ⟨hb4, hf⟩ := hfg hf
    refine g_iald X (q0 := 9) (f := o1.2.2 3) dX1_holderAt_13 rfl hb4 ?_
    refine g_goto X dX1_holderAt_14 (tgt := 18) (by decide) ?_
    exact g_iret X hr dX1_holderAt_18 hf
def f_X1_tellReferred (x1 x2 : Int32) (w : St) : Option (Int32 × St) := (if x1 < 0 then some ((-11), w) else (if (1 : Int32) < x1 then some ((-11), w) else (if x1 = 0 then (f_X6_isIn x2 4 w).bind fun o4 => (if o4.1 = 0 then some ((-11), o4.2) else (if x1 = 0 then (f_X1_rootAt x2 o4.2).bind fun o8 => (if o8.1 = (-1) then some ((-14), o8.2) else some (o8.1, o8.2)) else (f_X1_holderAt x2 o4.2).bind fun o11 => (if o11.1 = (-1) then some ((-14), o11.2) else some (o11.1, o11.2)))) else (f_X6_isIn x2 4 w).bind fun o14 => (if o14.1 = 0 then some ((-11), o14.2) else (if x1 = 0 then (f_X1_rootAt x2 o14.2).bind fun o18 => (if o18.1 = (-1) then some ((-14), o18.2) else some (o18.1, o18.2)) else (f_X1_holderAt x2 o14.2).bind fun o21 => (if o21.1 = (-1) then some ((-14), o21.2) else some (o21.1, o21.2)))))))
set_option maxRecDepth 100000 in
set_option maxHeartbeats 4000000 in
theorem c_X1_tellReferred {l : Launch} {D : va_G} {cI : ClassId × ClassId} {A : Nat → Prop} {ad : Nat → Nat} {x1 x2 : Int32} {w : St} {o : Int32 × St} (hf : f_X1_tellReferred x1 x2 w = some o) : CTi l D cI A yX1_tellReferred cX1_tellReferred 4 (some .int) rm_X1_tellReferred [.ref (ad 3), .int x1, .int x2] ((wS ad cI) w) o.1 ((wS ad cI) o.2)   := by
  refine CTi.of (by decide +kernel) rfl (Nat.le_of_ble_eq_true rfl) ?_
  intro p e s m args below meth c X hr
  have X : gX p s m args meth c cX1_tellReferred 4 RX1 D cI := X
  show G _ _ _ _ _ _ _ _ _ _ _ _ _ _ _ _ _ 0 [some (.ref (ad 3)), some (.int x1), some (.int x2), none] [] w
  unfold f_X1_tellReferred at hf
  refine g_iload_n X (i := 1) dX1_tellReferred_0 rfl rfl ?_
  refine g_if_lt X dX1_tellReferred_1 (tgt := 25) (by decide) hf (fun c1 hf => ?_) (fun c1 hf => ?_)
  · refine g_bipush X dX1_tellReferred_25 (v := (-11)) (by decide) ?_
    exact g_iret X hr dX1_tellReferred_27 hf
  · refine g_iload_n X (i := 1) dX1_tellReferred_4 rfl rfl ?_
    refine g_iconst X dX1_tellReferred_5 (v := 1) (by decide) ?_
    refine g_icmp_gt X dX1_tellReferred_6 (tgt := 25) (by decide) hf (fun c2 hf => ?_) (fun c2 hf => ?_)
    · refine g_bipush X dX1_tellReferred_25 (v := (-11)) (by decide) ?_
      exact g_iret X hr dX1_tellReferred_27 hf
    · refine g_iload_n X (i := 2) dX1_tellReferred_9 rfl rfl ?_
      refine g_iload_n X (i := 1) dX1_tellReferred_10 rfl rfl ?_
      refine g_if_ne X dX1_tellReferred_11 (tgt := 18) (by decide) hf (fun c3 hf => ?_) (fun c3 hf => ?_)
      · refine g_iconst X dX1_tellReferred_14 (v := 4) (by decide) ?_
        refine g_goto X dX1_tellReferred_15 (tgt := 19) (by decide) ?_
        obtain ⟨o4, h5, hf⟩ := hfb hf
        refine g_Ni X (As := [.int x2, .int 4]) (rest := []) (c_X6_isIn (wf := (wS ad cI)) h5) dX1_tellReferred_19 ml_X1_51 yv_X6_isIn rfl rfl ⟨Nat.le_of_ble_eq_true rfl, Nat.le_of_ble_eq_true rfl⟩ ⟨rfl, rfl⟩ (Nat.le_of_ble_eq_true rfl) ⟨Nat.le_of_ble_eq_true rfl, Nat.le_of_ble_eq_true rfl⟩ ?_
        refine g_if_ne X dX1_tellReferred_22 (tgt := 28) (by decide) hf (fun c6 hf => ?_) (fun c6 hf => ?_)
        · refine g_bipush X dX1_tellReferred_25 (v := (-11)) (by decide) ?_
          exact g_iret X hr dX1_tellReferred_27 hf
        · refine g_iload_n X (i := 1) dX1_tellReferred_28 rfl rfl ?_
          refine g_if_ne X dX1_tellReferred_29 (tgt := 40) (by decide) hf (fun c7 hf => ?_) (fun c7 hf => ?_)
          · refine g_aload_n X (i := 0) dX1_tellReferred_32 rfl rfl ?_
            refine g_iload_n X (i := 2) dX1_tellReferred_33 rfl rfl ?_
            obtain ⟨o8, h9, hf⟩ := hfb hf
            refine g_Vi X (q0 := 3) (As := [.int x2]) (rest := []) (c_X1_rootAt h9) dX1_tellReferred_34 ml_X1_55 yv_X1_rootAt rfl rfl rfl rfl ⟨Nat.le_of_ble_eq_true rfl, Nat.le_of_ble_eq_true rfl⟩ ⟨rfl, rfl⟩ (Nat.le_of_ble_eq_true rfl) ⟨Nat.le_of_ble_eq_true rfl, Nat.le_of_ble_eq_true rfl⟩ ?_
            refine g_goto X dX1_tellReferred_37 (tgt := 45) (by decide) ?_
            refine g_istore_n X (i := 3) dX1_tellReferred_45 rfl (by decide) rfl ?_
            refine g_iload_n X (i := 3) dX1_tellReferred_46 rfl rfl ?_
            refine g_iconst X dX1_tellReferred_47 (v := (-1)) (by decide) ?_
            refine g_icmp_ne X dX1_tellReferred_48 (tgt := 56) (by decide) hf (fun c10 hf => ?_) (fun c10 hf => ?_)
            · refine g_bipush X dX1_tellReferred_51 (v := (-14)) (by decide) ?_
              refine g_goto X dX1_tellReferred_53 (tgt := 57) (by decide) ?_
              exact g_iret X hr dX1_tellReferred_57 hf
            · refine g_iload_n X (i := 3) dX1_tellReferred_56 rfl rfl ?_
              exact g_iret X hr dX1_tellReferred_57 hf
          · refine g_aload_n X (i := 0) dX1_tellReferred_40 rfl rfl ?_
            refine g_iload_n X (i := 2) dX1_tellReferred_41 rfl rfl ?_
            obtain ⟨o11, h12, hf⟩ := hfb hf
            refine g_Vi X (q0 := 3) (As := [.int x2]) (rest := []) (c_X1_holderAt h12) dX1_tellReferred_42 ml_X1_58 yv_X1_holderAt rfl rfl rfl rfl ⟨Nat.le_of_ble_eq_true rfl, Nat.le_of_ble_eq_true rfl⟩ ⟨rfl, rfl⟩ (Nat.le_of_ble_eq_true rfl) ⟨Nat.le_of_ble_eq_true rfl, Nat.le_of_ble_eq_true rfl⟩ ?_
            refine g_istore_n X (i := 3) dX1_tellReferred_45 rfl (by decide) rfl ?_
            refine g_iload_n X (i := 3) dX1_tellReferred_46 rfl rfl ?_
            refine g_iconst X dX1_tellReferred_47 (v := (-1)) (by decide) ?_
            refine g_icmp_ne X dX1_tellReferred_48 (tgt := 56) (by decide) hf (fun c13 hf => ?_) (fun c13 hf => ?_)
            · refine g_bipush X dX1_tellReferred_51 (v := (-14)) (by decide) ?_
              refine g_goto X dX1_tellReferred_53 (tgt := 57) (by decide) ?_
              exact g_iret X hr dX1_tellReferred_57 hf
            · refine g_iload_n X (i := 3) dX1_tellReferred_56 rfl rfl ?_
              exact g_iret X hr dX1_tellReferred_57 hf
      · refine g_iconst X dX1_tellReferred_18 (v := 4) (by decide) ?_
        obtain ⟨o14, h15, hf⟩ := hfb hf
        refine g_Ni X (As := [.int x2, .int 4]) (rest := []) (c_X6_isIn (wf := (wS ad cI)) h15) dX1_tellReferred_19 ml_X1_51 yv_X6_isIn rfl rfl ⟨Nat.le_of_ble_eq_true rfl, Nat.le_of_ble_eq_true rfl⟩ ⟨rfl, rfl⟩ (Nat.le_of_ble_eq_true rfl) ⟨Nat.le_of_ble_eq_true rfl, Nat.le_of_ble_eq_true rfl⟩ ?_
        refine g_if_ne X dX1_tellReferred_22 (tgt := 28) (by decide) hf (fun c16 hf => ?_) (fun c16 hf => ?_)
        · refine g_bipush X dX1_tellReferred_25 (v := (-11)) (by decide) ?_
          exact g_iret X hr dX1_tellReferred_27 hf
        · refine g_iload_n X (i := 1) dX1_tellReferred_28 rfl rfl ?_
          refine g_if_ne X dX1_tellReferred_29 (tgt := 40) (by decide) hf (fun c17 hf => ?_) (fun c17 hf => ?_)
          · refine g_aload_n X (i := 0) dX1_tellReferred_32 rfl rfl ?_
            refine g_iload_n X (i := 2) dX1_tellReferred_33 rfl rfl ?_
            obtain ⟨o18, h19, hf⟩ := hfb hf
            refine g_Vi X (q0 := 3) (As := [.int x2]) (rest := []) (c_X1_rootAt h19) dX1_tellReferred_34 ml_X1_55 yv_X1_rootAt rfl rfl rfl rfl ⟨Nat.le_of_ble_eq_true rfl, Nat.le_of_ble_eq_true rfl⟩ ⟨rfl, rfl⟩ (Nat.le_of_ble_eq_true rfl) ⟨Nat.le_of_ble_eq_true rfl, Nat.le_of_ble_eq_true rfl⟩ ?_
            refine g_goto X dX1_tellReferred_37 (tgt := 45) (by decide) ?_
            refine g_istore_n X (i := 3) dX1_tellReferred_45 rfl (by decide) rfl ?_
            refine g_iload_n X (i := 3) dX1_tellReferred_46 rfl rfl ?_
            refine g_iconst X dX1_tellReferred_47 (v := (-1)) (by decide) ?_
            refine g_icmp_ne X dX1_tellReferred_48 (tgt := 56) (by decide) hf (fun c20 hf => ?_) (fun c20 hf => ?_)
            · refine g_bipush X dX1_tellReferred_51 (v := (-14)) (by decide) ?_
              refine g_goto X dX1_tellReferred_53 (tgt := 57) (by decide) ?_
              exact g_iret X hr dX1_tellReferred_57 hf
            · refine g_iload_n X (i := 3) dX1_tellReferred_56 rfl rfl ?_
              exact g_iret X hr dX1_tellReferred_57 hf
          · refine g_aload_n X (i := 0) dX1_tellReferred_40 rfl rfl ?_
            refine g_iload_n X (i := 2) dX1_tellReferred_41 rfl rfl ?_
            obtain ⟨o21, h22, hf⟩ := hfb hf
            refine g_Vi X (q0 := 3) (As := [.int x2]) (rest := []) (c_X1_holderAt h22) dX1_tellReferred_42 ml_X1_58 yv_X1_holderAt rfl rfl rfl rfl ⟨Nat.le_of_ble_eq_true rfl, Nat.le_of_ble_eq_true rfl⟩ ⟨rfl, rfl⟩ (Nat.le_of_ble_eq_true rfl) ⟨Nat.le_of_ble_eq_true rfl, Nat.le_of_ble_eq_true rfl⟩ ?_
            refine g_istore_n X (i := 3) dX1_tellReferred_45 rfl (by decide) rfl ?_
            refine g_iload_n X (i := 3) dX1_tellReferred_46 rfl rfl ?_
            refine g_iconst X dX1_tellReferred_47 (v := (-1)) (by decide) ?_
            refine g_icmp_ne X dX1_tellReferred_48 (tgt := 56) (by decide) hf (fun c23 hf => ?_) (fun c23 hf => ?_)
            · refine g_bipush X dX1_tellReferred_51 (v := (-14)) (by decide) ?_
              refine g_goto X dX1_tellReferred_53 (tgt := 57) (by decide) ?_
              exact g_iret X hr dX1_tellReferred_57 hf
            · refine g_iload_n X (i := 3) dX1_tellReferred_56 rfl rfl ?_
              exact g_iret X hr dX1_tellReferred_57 hf
def f_X1_bring (w : St) : Option (Int32 × St) := (f_X6_lowestOf ((w.1 13) ^^^ (-1)) 0 w).bind fun o1 => (f_X6_bit o1.1 o1.2).bind fun o3 => some (o1.1, sR o3.2 13 ((o1.2.1 13) ||| o3.1))
set_option maxRecDepth 100000 in
set_option maxHeartbeats 4000000 in
theorem c_X1_bring {l : Launch} {D : va_G} {cI : ClassId × ClassId} {A : Nat → Prop} {ad : Nat → Nat} {w : St} {o : Int32 × St} (hf : f_X1_bring w = some o) : CTi l D cI A yX1_bring cX1_bring 2 (some .int) rm_X1_bring [.ref (ad 3)] ((wS ad cI) w) o.1 ((wS ad cI) o.2)   := by
  refine CTi.of (by decide +kernel) rfl (Nat.le_of_ble_eq_true rfl) ?_
  intro p e s m args below meth c X hr
  have X : gX p s m args meth c cX1_bring 2 RX1 D cI := X
  show G _ _ _ _ _ _ _ _ _ _ _ _ _ _ _ _ _ 0 [some (.ref (ad 3)), none] [] w
  unfold f_X1_bring at hf
  refine g_aload_n X (i := 0) dX1_bring_0 rfl rfl ?_
  refine g_get X (q0 := 3) (v := .int (w.1 13)) 0 dX1_bring_1 gC_X1 rfl rfl (by decide) fl_X1_34 rfl rfl ?_
  refine g_iconst X dX1_bring_4 (v := (-1)) (by decide) ?_
  refine g_ixor X dX1_bring_5 ?_
  refine g_iconst X dX1_bring_6 (v := 0) (by decide) ?_
  obtain ⟨o1, h2, hf⟩ := hfb hf
  refine g_Ni X (As := [.int ((w.1 13) ^^^ (-1)), .int 0]) (rest := []) (c_X6_lowestOf (wf := (wS ad cI)) h2) dX1_bring_7 ml_X1_61 yv_X6_lowestOf rfl rfl ⟨Nat.le_of_ble_eq_true rfl, Nat.le_of_ble_eq_true rfl⟩ ⟨rfl, rfl⟩ (Nat.le_of_ble_eq_true rfl) ⟨Nat.le_of_ble_eq_true rfl, Nat.le_of_ble_eq_true rfl⟩ ?_
  refine g_istore_n X (i := 1) dX1_bring_10 rfl (by decide) rfl ?_
  refine g_aload_n X (i := 0) dX1_bring_11 rfl rfl ?_
  refine g_dup X dX1_bring_12 rfl ?_
  refine g_get X (q0 := 3) (v := .int (o1.2.1 13)) 0 dX1_bring_13 gC_X1 rfl rfl (by decide) fl_X1_34 rfl rfl ?_
  refine g_iload_n X (i := 1) dX1_bring_16 rfl rfl ?_
  obtain ⟨o3, h4, hf⟩ := hfb hf
  refine g_Ni X (As := [.int o1.1]) (rest := [.int (o1.2.1 13), .ref (ad 3)]) (c_X6_bit (wf := (wS ad cI)) h4) dX1_bring_17 ml_X1_38 yv_X6_bit rfl rfl ⟨Nat.le_of_ble_eq_true rfl, Nat.le_of_ble_eq_true rfl⟩ ⟨rfl, rfl⟩ (Nat.le_of_ble_eq_true rfl) ⟨Nat.le_of_ble_eq_true rfl, Nat.le_of_ble_eq_true rfl⟩ ?_
  refine g_ior X dX1_bring_20 ?_
  refine g_put X (q0 := 3) 0 dX1_bring_21 gC_X1 rfl rfl (by decide) fl_X1_34 rfl rfl rfl rfl (Nat.le_of_ble_eq_true rfl) (pwS_13 ad cI _ _) ?_
  refine g_iload_n X (i := 1) dX1_bring_24 rfl rfl ?_
  exact g_iret X hr dX1_bring_25 hf
def f_X1_forget_7_L2 : Nat → Int32 → Int32 → St → Option (St)
  | 0, _, _, _ => none
  | n + 1, x1, x2, w => (if x2 < 72 then if ib x2 72 then (if (w.2 1 x2.toNatClampNeg) = x1 then if ib x2 72 then f_X1_forget_7_L2 n x1 (x2 + 1) (sA w 1 x2 (-1)) else none else f_X1_forget_7_L2 n x1 (x2 + 1) w) else none else some (w))
def f_X1_forget_7 (x1 : Int32) (w : St) : Option (Int32 × St) := (f_X1_forget_7_L2 BIG x1 0 w).bind fun o5 => some (0, o5)
set_option maxRecDepth 100000 in
set_option maxHeartbeats 4000000 in
theorem gl_X1_forget_7_L2 {p : Program} {l : Launch} {e : Env} {s : State} {m : MethodId} {args : Array Value} {below : List Frame} {meth : Method} {c : Code} {D : va_G} {A : Nat → Prop} {cI : ClassId × ClassId} {ad : Nat → Nat} {Q : State → Prop} {o : St} (X : gX p s m args meth c cX1_forget 3 RX1 D cI) (n : Nat) : ∀ {x1 x2 : Int32} {w : St}, f_X1_forget_7_L2 n x1 x2 w = some o → G p l e rm_X1_forget s m args below meth c D A 3 Q (wS ad cI) 0 0 25 [none, none, none] [] o → G p l e rm_X1_forget s m args below meth c D A 3 Q (wS ad cI) 0 0 2 [some (.ref (ad 7)), some (.int x1), some (.int x2)] [] w := by
  induction n with
  | zero => intro x1 x2 w hf; cases hf
  | succ n ih =>
    intro x1 x2 w hf k
    rw [f_X1_forget_7_L2] at hf
    refine g_iload_n X (i := 2) dX1_forget_2 rfl rfl ?_
    refine g_aload_n X (i := 0) dX1_forget_3 rfl rfl ?_
    refine g_alen X (q0 := 7) (f := w.2 1) (v := 72) dX1_forget_4 rfl rfl ?_
    refine g_icmp_ge X dX1_forget_5 (tgt := 25) (by decide) hf (fun c1 hf => ?_) (fun c1 hf => ?_)
    · refine g_aload_n X (i := 0) dX1_forget_8 rfl rfl ?_
      refine g_iload_n X (i := 2) dX1_forget_9 rfl rfl ?_
      obtain ⟨hb2, hf⟩ := hfg hf
      refine g_iald X (q0 := 7) (f := w.2 1) dX1_forget_10 rfl hb2 ?_
      refine g_iload_n X (i := 1) dX1_forget_11 rfl rfl ?_
      refine g_icmp_ne X dX1_forget_12 (tgt := 19) (by decide) hf (fun c3 hf => ?_) (fun c3 hf => ?_)
      · refine g_aload_n X (i := 0) dX1_forget_15 rfl rfl ?_
        refine g_iload_n X (i := 2) dX1_forget_16 rfl rfl ?_
        refine g_iconst X dX1_forget_17 (v := (-1)) (by decide) ?_
        obtain ⟨hb4, hf⟩ := hfg hf
        refine g_iast X (q0 := 7) (f := w.2 1) dX1_forget_18 rfl hb4 (awS_1 ad cI _ _ _) ?_
        refine g_iinc X (i := 2) (v := 1) dX1_forget_19 rfl (by decide) (by decide) rfl ?_
        refine g_goto X dX1_forget_22 (tgt := 2) (by decide) ?_
        exact ih hf k
      · refine g_iinc X (i := 2) (v := 1) dX1_forget_19 rfl (by decide) (by decide) rfl ?_
        refine g_goto X dX1_forget_22 (tgt := 2) (by decide) ?_
        exact ih hf k
    · obtain rfl := Option.some.inj hf
      refine g_sub (losub (lo' := [none, none, none]) trivial) ?_
      exact k
set_option maxRecDepth 100000 in
set_option maxHeartbeats 4000000 in
theorem c_X1_forget_7 {l : Launch} {D : va_G} {cI : ClassId × ClassId} {A : Nat → Prop} {ad : Nat → Nat} {x1 : Int32} {w : St} {o : Int32 × St} (hf : f_X1_forget_7 x1 w = some o) : CTv l D cI A yX1_forget cX1_forget 3 (none) rm_X1_forget [.ref (ad 7), .int x1] ((wS ad cI) w) ((wS ad cI) o.2)   := by
  refine CTv.of (by decide +kernel) rfl (Nat.le_of_ble_eq_true rfl) ?_
  intro p e s m args below meth c X hr
  have X : gX p s m args meth c cX1_forget 3 RX1 D cI := X
  show G _ _ _ _ _ _ _ _ _ _ _ _ _ _ _ _ _ 0 [some (.ref (ad 7)), some (.int x1), none] [] w
  unfold f_X1_forget_7 at hf
  refine g_iconst X dX1_forget_0 (v := 0) (by decide) ?_
  refine g_istore_n X (i := 2) dX1_forget_1 rfl (by decide) rfl ?_
  obtain ⟨o5, h6, hf⟩ := hfb hf
  refine gl_X1_forget_7_L2 X BIG h6 ?_
  exact g_vret X hr dX1_forget_25 hf
def f_X1_forget_9_L2 : Nat → Int32 → Int32 → St → Option (St)
  | 0, _, _, _ => none
  | n + 1, x1, x2, w => (if x2 < 4 then if ib x2 4 then (if (w.2 3 x2.toNatClampNeg) = x1 then if ib x2 4 then f_X1_forget_9_L2 n x1 (x2 + 1) (sA w 3 x2 (-1)) else none else f_X1_forget_9_L2 n x1 (x2 + 1) w) else none else some (w))
def f_X1_forget_9 (x1 : Int32) (w : St) : Option (Int32 × St) := (f_X1_forget_9_L2 BIG x1 0 w).bind fun o5 => some (0, o5)
set_option maxRecDepth 100000 in
set_option maxHeartbeats 4000000 in
theorem gl_X1_forget_9_L2 {p : Program} {l : Launch} {e : Env} {s : State} {m : MethodId} {args : Array Value} {below : List Frame} {meth : Method} {c : Code} {D : va_G} {A : Nat → Prop} {cI : ClassId × ClassId} {ad : Nat → Nat} {Q : State → Prop} {o : St} (X : gX p s m args meth c cX1_forget 3 RX1 D cI) (n : Nat) : ∀ {x1 x2 : Int32} {w : St}, f_X1_forget_9_L2 n x1 x2 w = some o → G p l e rm_X1_forget s m args below meth c D A 3 Q (wS ad cI) 0 0 25 [none, none, none] [] o → G p l e rm_X1_forget s m args below meth c D A 3 Q (wS ad cI) 0 0 2 [some (.ref (ad 9)), some (.int x1), some (.int x2)] [] w := by
  induction n with
  | zero => intro x1 x2 w hf; cases hf
  | succ n ih =>
    intro x1 x2 w hf k
    rw [f_X1_forget_9_L2] at hf
    refine g_iload_n X (i := 2) dX1_forget_2 rfl rfl ?_
    refine g_aload_n X (i := 0) dX1_forget_3 rfl rfl ?_
    refine g_alen X (q0 := 9) (f := w.2 3) (v := 4) dX1_forget_4 rfl rfl ?_
    refine g_icmp_ge X dX1_forget_5 (tgt := 25) (by decide) hf (fun c1 hf => ?_) (fun c1 hf => ?_)
    · refine g_aload_n X (i := 0) dX1_forget_8 rfl rfl ?_
      refine g_iload_n X (i := 2) dX1_forget_9 rfl rfl ?_
      obtain ⟨hb2, hf⟩ := hfg hf
      refine g_iald X (q0 := 9) (f := w.2 3) dX1_forget_10 rfl hb2 ?_
      refine g_iload_n X (i := 1) dX1_forget_11 rfl rfl ?_
      refine g_icmp_ne X dX1_forget_12 (tgt := 19) (by decide) hf (fun c3 hf => ?_) (fun c3 hf => ?_)
      · refine g_aload_n X (i := 0) dX1_forget_15 rfl rfl ?_
        refine g_iload_n X (i := 2) dX1_forget_16 rfl rfl ?_
        refine g_iconst X dX1_forget_17 (v := (-1)) (by decide) ?_
        obtain ⟨hb4, hf⟩ := hfg hf
        refine g_iast X (q0 := 9) (f := w.2 3) dX1_forget_18 rfl hb4 (awS_3 ad cI _ _ _) ?_
        refine g_iinc X (i := 2) (v := 1) dX1_forget_19 rfl (by decide) (by decide) rfl ?_
        refine g_goto X dX1_forget_22 (tgt := 2) (by decide) ?_
        exact ih hf k
      · refine g_iinc X (i := 2) (v := 1) dX1_forget_19 rfl (by decide) (by decide) rfl ?_
        refine g_goto X dX1_forget_22 (tgt := 2) (by decide) ?_
        exact ih hf k
    · obtain rfl := Option.some.inj hf
      refine g_sub (losub (lo' := [none, none, none]) trivial) ?_
      exact k
set_option maxRecDepth 100000 in
set_option maxHeartbeats 4000000 in
theorem c_X1_forget_9 {l : Launch} {D : va_G} {cI : ClassId × ClassId} {A : Nat → Prop} {ad : Nat → Nat} {x1 : Int32} {w : St} {o : Int32 × St} (hf : f_X1_forget_9 x1 w = some o) : CTv l D cI A yX1_forget cX1_forget 3 (none) rm_X1_forget [.ref (ad 9), .int x1] ((wS ad cI) w) ((wS ad cI) o.2)   := by
  refine CTv.of (by decide +kernel) rfl (Nat.le_of_ble_eq_true rfl) ?_
  intro p e s m args below meth c X hr
  have X : gX p s m args meth c cX1_forget 3 RX1 D cI := X
  show G _ _ _ _ _ _ _ _ _ _ _ _ _ _ _ _ _ 0 [some (.ref (ad 9)), some (.int x1), none] [] w
  unfold f_X1_forget_9 at hf
  refine g_iconst X dX1_forget_0 (v := 0) (by decide) ?_
  refine g_istore_n X (i := 2) dX1_forget_1 rfl (by decide) rfl ?_
  obtain ⟨o5, h6, hf⟩ := hfb hf
  refine gl_X1_forget_9_L2 X BIG h6 ?_
  exact g_vret X hr dX1_forget_25 hf
def f_X1_letGo_L32 : Nat → Int32 → Int32 → St → Option (St)
  | 0, _, _, _ => none
  | n + 1, x1, x2, w => (if x2 < 3 then (f_X1_setField x1 x2 (-1) w).bind fun o6 => f_X1_letGo_L32 n x1 (x2 + 1) o6.2 else some (w))
def f_X1_letGo (x1 : Int32) (w : St) : Option (Int32 × St) := (f_X6_bit x1 w).bind fun o1 => (f_X6_bit x1 (sR o1.2 13 ((w.1 13) &&& (o1.1 ^^^ (-1))))).bind fun o3 => (f_X1_letGo_L32 BIG x1 0 (sR o3.2 14 ((o1.2.1 14) &&& (o3.1 ^^^ (-1))))).bind fun o8 => (f_X1_forget_7 x1 o8).bind fun o10 => (f_X1_forget_9 x1 o10.2).bind fun o12 => some (0, o12.2)
set_option maxRecDepth 100000 in
set_option maxHeartbeats 4000000 in
theorem gl_X1_letGo_L32 {p : Program} {l : Launch} {e : Env} {s : State} {m : MethodId} {args : Array Value} {below : List Frame} {meth : Method} {c : Code} {D : va_G} {A : Nat → Prop} {cI : ClassId × ClassId} {ad : Nat → Nat} {Q : State → Prop} {o : St} (X : gX p s m args meth c cX1_letGo 3 RX1 D cI) (n : Nat) : ∀ {x1 x2 : Int32} {w : St}, f_X1_letGo_L32 n x1 x2 w = some o → G p l e rm_X1_letGo s m args below meth c D A 3 Q (wS ad cI) 0 0 50 [some (.ref (ad 3)), some (.int x1), none] [] o → G p l e rm_X1_letGo s m args below meth c D A 3 Q (wS ad cI) 0 0 32 [some (.ref (ad 3)), some (.int x1), some (.int x2)] [] w := by
  induction n with
  | zero => intro x1 x2 w hf; cases hf
  | succ n ih =>
    intro x1 x2 w hf k
    rw [f_X1_letGo_L32] at hf
    refine g_iload_n X (i := 2) dX1_letGo_32 rfl rfl ?_
    refine g_iconst X dX1_letGo_33 (v := 3) (by decide) ?_
    refine g_icmp_ge X dX1_letGo_34 (tgt := 50) (by decide) hf (fun c5 hf => ?_) (fun c5 hf => ?_)
    · refine g_aload_n X (i := 0) dX1_letGo_37 rfl rfl ?_
      refine g_iload_n X (i := 1) dX1_letGo_38 rfl rfl ?_
      refine g_iload_n X (i := 2) dX1_letGo_39 rfl rfl ?_
      refine g_iconst X dX1_letGo_40 (v := (-1)) (by decide) ?_
      obtain ⟨o6, h7, hf⟩ := hfb hf
      refine g_Vv X (q0 := 3) (As := [.int x1, .int x2, .int (-1)]) (rest := []) (c_X1_setField h7) dX1_letGo_41 ml_X1_68 yv_X1_setField rfl rfl rfl rfl ⟨Nat.le_of_ble_eq_true rfl, Nat.le_of_ble_eq_true rfl⟩ ⟨rfl, rfl⟩ (Nat.le_of_ble_eq_true rfl) ⟨Nat.le_of_ble_eq_true rfl, Nat.le_of_ble_eq_true rfl⟩ ?_
      refine g_iinc X (i := 2) (v := 1) dX1_letGo_44 rfl (by decide) (by decide) rfl ?_
      refine g_goto X dX1_letGo_47 (tgt := 32) (by decide) ?_
      exact ih hf k
    · obtain rfl := Option.some.inj hf
      refine g_sub (losub (lo' := [some (.ref (ad 3)), some (.int x1), none]) ⟨rfl, rfl, trivial⟩) ?_
      exact k
set_option maxRecDepth 100000 in
set_option maxHeartbeats 4000000 in
theorem c_X1_letGo {l : Launch} {D : va_G} {cI : ClassId × ClassId} {A : Nat → Prop} {ad : Nat → Nat} {x1 : Int32} {w : St} {o : Int32 × St} (hf : f_X1_letGo x1 w = some o) : CTv l D cI A yX1_letGo cX1_letGo 3 (none) rm_X1_letGo [.ref (ad 3), .int x1] ((wS ad cI) w) ((wS ad cI) o.2)   := by
  refine CTv.of (by decide +kernel) rfl (Nat.le_of_ble_eq_true rfl) ?_
  intro p e s m args below meth c X hr
  have X : gX p s m args meth c cX1_letGo 3 RX1 D cI := X
  show G _ _ _ _ _ _ _ _ _ _ _ _ _ _ _ _ _ 0 [some (.ref (ad 3)), some (.int x1), none] [] w
  unfold f_X1_letGo at hf
  refine g_aload_n X (i := 0) dX1_letGo_0 rfl rfl ?_
  refine g_dup X dX1_letGo_1 rfl ?_
  refine g_get X (q0 := 3) (v := .int (w.1 13)) 0 dX1_letGo_2 gC_X1 rfl rfl (by decide) fl_X1_34 rfl rfl ?_
  refine g_iload_n X (i := 1) dX1_letGo_5 rfl rfl ?_
  obtain ⟨o1, h2, hf⟩ := hfb hf
  refine g_Ni X (As := [.int x1]) (rest := [.int (w.1 13), .ref (ad 3)]) (c_X6_bit (wf := (wS ad cI)) h2) dX1_letGo_6 ml_X1_38 yv_X6_bit rfl rfl ⟨Nat.le_of_ble_eq_true rfl, Nat.le_of_ble_eq_true rfl⟩ ⟨rfl, rfl⟩ (Nat.le_of_ble_eq_true rfl) ⟨Nat.le_of_ble_eq_true rfl, Nat.le_of_ble_eq_true rfl⟩ ?_
  refine g_iconst X dX1_letGo_9 (v := (-1)) (by decide) ?_
  refine g_ixor X dX1_letGo_10 ?_
  refine g_iand X dX1_letGo_11 ?_
  refine g_put X (q0 := 3) 0 dX1_letGo_12 gC_X1 rfl rfl (by decide) fl_X1_34 rfl rfl rfl rfl (Nat.le_of_ble_eq_true rfl) (pwS_13 ad cI _ _) ?_
  refine g_aload_n X (i := 0) dX1_letGo_15 rfl rfl ?_
  refine g_dup X dX1_letGo_16 rfl ?_
  refine g_get X (q0 := 3) (v := .int (o1.2.1 14)) 1 dX1_letGo_17 gC_X1 rfl rfl (by decide) fl_X1_65 rfl rfl ?_
  refine g_iload_n X (i := 1) dX1_letGo_20 rfl rfl ?_
  obtain ⟨o3, h4, hf⟩ := hfb hf
  refine g_Ni X (As := [.int x1]) (rest := [.int (o1.2.1 14), .ref (ad 3)]) (c_X6_bit (wf := (wS ad cI)) h4) dX1_letGo_21 ml_X1_38 yv_X6_bit rfl rfl ⟨Nat.le_of_ble_eq_true rfl, Nat.le_of_ble_eq_true rfl⟩ ⟨rfl, rfl⟩ (Nat.le_of_ble_eq_true rfl) ⟨Nat.le_of_ble_eq_true rfl, Nat.le_of_ble_eq_true rfl⟩ ?_
  refine g_iconst X dX1_letGo_24 (v := (-1)) (by decide) ?_
  refine g_ixor X dX1_letGo_25 ?_
  refine g_iand X dX1_letGo_26 ?_
  refine g_put X (q0 := 3) 1 dX1_letGo_27 gC_X1 rfl rfl (by decide) fl_X1_65 rfl rfl rfl rfl (Nat.le_of_ble_eq_true rfl) (pwS_14 ad cI _ _) ?_
  refine g_iconst X dX1_letGo_30 (v := 0) (by decide) ?_
  refine g_istore_n X (i := 2) dX1_letGo_31 rfl (by decide) rfl ?_
  obtain ⟨o8, h9, hf⟩ := hfb hf
  refine gl_X1_letGo_L32 X BIG h9 ?_
  refine g_aload_n X (i := 0) dX1_letGo_50 rfl rfl ?_
  refine g_get X (q0 := 3) (v := .ref (ad 7)) 2 dX1_letGo_51 gC_X1 rfl rfl (by decide) fl_X1_9 rfl rfl ?_
  refine g_iload_n X (i := 1) dX1_letGo_54 rfl rfl ?_
  obtain ⟨o10, h11, hf⟩ := hfb hf
  refine g_Sv X (As := [.ref (ad 7), .int x1]) (rest := []) (c_X1_forget_7 h11) dX1_letGo_55 ml_X1_72 yv_X1_forget rfl rfl ⟨Nat.le_of_ble_eq_true rfl, Nat.le_of_ble_eq_true rfl⟩ ⟨rfl, rfl⟩ (Nat.le_of_ble_eq_true rfl) ⟨Nat.le_of_ble_eq_true rfl, Nat.le_of_ble_eq_true rfl⟩ ?_
  refine g_aload_n X (i := 0) dX1_letGo_58 rfl rfl ?_
  refine g_get X (q0 := 3) (v := .ref (ad 9)) 4 dX1_letGo_59 gC_X1 rfl rfl (by decide) fl_X1_18 rfl rfl ?_
  refine g_iload_n X (i := 1) dX1_letGo_62 rfl rfl ?_
  obtain ⟨o12, h13, hf⟩ := hfb hf
  refine g_Sv X (As := [.ref (ad 9), .int x1]) (rest := []) (c_X1_forget_9 h13) dX1_letGo_63 ml_X1_72 yv_X1_forget rfl rfl ⟨Nat.le_of_ble_eq_true rfl, Nat.le_of_ble_eq_true rfl⟩ ⟨rfl, rfl⟩ (Nat.le_of_ble_eq_true rfl) ⟨Nat.le_of_ble_eq_true rfl, Nat.le_of_ble_eq_true rfl⟩ ?_
  exact g_vret X hr dX1_letGo_66 hf
def f_X1_emptyHoldersOf_L2 : Nat → Int32 → Int32 → St → Option (St)
  | 0, _, _, _ => none
  | n + 1, x1, x2, w => (if x2 < 4 then if ib x2 4 then (f_X6_bit (w.2 3 x2.toNatClampNeg) w).bind fun o3 => (if (o3.1 &&& x1) = 0 then f_X1_emptyHoldersOf_L2 n x1 (x2 + 1) o3.2 else if ib x2 4 then f_X1_emptyHoldersOf_L2 n x1 (x2 + 1) (sA o3.2 3 x2 (-1)) else none) else none else some (w))
def f_X1_emptyHoldersOf (x1 : Int32) (w : St) : Option (Int32 × St) := (f_X1_emptyHoldersOf_L2 BIG x1 0 w).bind fun o7 => some (0, o7)
set_option maxRecDepth 100000 in
set_option maxHeartbeats 4000000 in
theorem gl_X1_emptyHoldersOf_L2 {p : Program} {l : Launch} {e : Env} {s : State} {m : MethodId} {args : Array Value} {below : List Frame} {meth : Method} {c : Code} {D : va_G} {A : Nat → Prop} {cI : ClassId × ClassId} {ad : Nat → Nat} {Q : State → Prop} {o : St} (X : gX p s m args meth c cX1_emptyHoldersOf 3 RX1 D cI) (n : Nat) : ∀ {x1 x2 : Int32} {w : St}, f_X1_emptyHoldersOf_L2 n x1 x2 w = some o → G p l e rm_X1_emptyHoldersOf s m args below meth c D A 3 Q (wS ad cI) 0 0 34 [none, none, none] [] o → G p l e rm_X1_emptyHoldersOf s m args below meth c D A 3 Q (wS ad cI) 0 0 2 [some (.ref (ad 3)), some (.int x1), some (.int x2)] [] w := by
  induction n with
  | zero => intro x1 x2 w hf; cases hf
  | succ n ih =>
    intro x1 x2 w hf k
    rw [f_X1_emptyHoldersOf_L2] at hf
    refine g_iload_n X (i := 2) dX1_emptyHoldersOf_2 rfl rfl ?_
    refine g_iconst X dX1_emptyHoldersOf_3 (v := 4) (by decide) ?_
    refine g_icmp_ge X dX1_emptyHoldersOf_4 (tgt := 34) (by decide) hf (fun c1 hf => ?_) (fun c1 hf => ?_)
    · refine g_aload_n X (i := 0) dX1_emptyHoldersOf_7 rfl rfl ?_
      refine g_get X (q0 := 3) (v := .ref (ad 9)) 4 dX1_emptyHoldersOf_8 gC_X1 rfl rfl (by decide) fl_X1_18 rfl rfl ?_
      refine g_iload_n X (i := 2) dX1_emptyHoldersOf_11 rfl rfl ?_
      obtain ⟨hb2, hf⟩ := hfg hf
      refine g_iald X (q0 := 9) (f := w.2 3) dX1_emptyHoldersOf_12 rfl hb2 ?_
      obtain ⟨o3, h4, hf⟩ := hfb hf
      refine g_Ni X (As := [.int (w.2 3 x2.toNatClampNeg)]) (rest := []) (c_X6_bit (wf := (wS ad cI)) h4) dX1_emptyHoldersOf_13 ml_X1_38 yv_X6_bit rfl rfl ⟨Nat.le_of_ble_eq_true rfl, Nat.le_of_ble_eq_true rfl⟩ ⟨rfl, rfl⟩ (Nat.le_of_ble_eq_true rfl) ⟨Nat.le_of_ble_eq_true rfl, Nat.le_of_ble_eq_true rfl⟩ ?_
      refine g_iload_n X (i := 1) dX1_emptyHoldersOf_16 rfl rfl ?_
      refine g_iand X dX1_emptyHoldersOf_17 ?_
      refine g_if_eq X dX1_emptyHoldersOf_18 (tgt := 28) (by decide) hf (fun c5 hf => ?_) (fun c5 hf => ?_)
      · refine g_iinc X (i := 2) (v := 1) dX1_emptyHoldersOf_28 rfl (by decide) (by decide) rfl ?_
        refine g_goto X dX1_emptyHoldersOf_31 (tgt := 2) (by decide) ?_
        exact ih hf k
      · refine g_aload_n X (i := 0) dX1_emptyHoldersOf_21 rfl rfl ?_
        refine g_get X (q0 := 3) (v := .ref (ad 9)) 4 dX1_emptyHoldersOf_22 gC_X1 rfl rfl (by decide) fl_X1_18 rfl rfl ?_
        refine g_iload_n X (i := 2) dX1_emptyHoldersOf_25 rfl rfl ?_
        refine g_iconst X dX1_emptyHoldersOf_26 (v := (-1)) (by decide) ?_
        obtain ⟨hb6, hf⟩ := hfg hf
        refine g_iast X (q0 := 9) (f := o3.2.2 3) dX1_emptyHoldersOf_27 rfl hb6 (awS_3 ad cI _ _ _) ?_
        refine g_iinc X (i := 2) (v := 1) dX1_emptyHoldersOf_28 rfl (by decide) (by decide) rfl ?_
        refine g_goto X dX1_emptyHoldersOf_31 (tgt := 2) (by decide) ?_
        exact ih hf k
    · obtain rfl := Option.some.inj hf
      refine g_sub (losub (lo' := [none, none, none]) trivial) ?_
      exact k
set_option maxRecDepth 100000 in
set_option maxHeartbeats 4000000 in
theorem c_X1_emptyHoldersOf {l : Launch} {D : va_G} {cI : ClassId × ClassId} {A : Nat → Prop} {ad : Nat → Nat} {x1 : Int32} {w : St} {o : Int32 × St} (hf : f_X1_emptyHoldersOf x1 w = some o) : CTv l D cI A yX1_emptyHoldersOf cX1_emptyHoldersOf 3 (none) rm_X1_emptyHoldersOf [.ref (ad 3), .int x1] ((wS ad cI) w) ((wS ad cI) o.2)   := by
  refine CTv.of (by decide +kernel) rfl (Nat.le_of_ble_eq_true rfl) ?_
  intro p e s m args below meth c X hr
  have X : gX p s m args meth c cX1_emptyHoldersOf 3 RX1 D cI := X
  show G _ _ _ _ _ _ _ _ _ _ _ _ _ _ _ _ _ 0 [some (.ref (ad 3)), some (.int x1), none] [] w
  unfold f_X1_emptyHoldersOf at hf
  refine g_iconst X dX1_emptyHoldersOf_0 (v := 0) (by decide) ?_
  refine g_istore_n X (i := 2) dX1_emptyHoldersOf_1 rfl (by decide) rfl ?_
  obtain ⟨o7, h8, hf⟩ := hfb hf
  refine gl_X1_emptyHoldersOf_L2 X BIG h8 ?_
  exact g_vret X hr dX1_emptyHoldersOf_34 hf
def f_X1_setOfRoots_L4 : Nat → Int32 → Int32 → St → Option (Int32 × St)
  | 0, _, _, _ => none
  | n + 1, x1, x2, w => (if x2 < 4 then if ib x2 4 then (f_X6_bit (w.2 2 x2.toNatClampNeg) w).bind fun o3 => f_X1_setOfRoots_L4 n (x1 ||| o3.1) (x2 + 1) o3.2 else none else some (x1, w))
def f_X1_setOfRoots (w : St) : Option (Int32 × St) := (f_X1_setOfRoots_L4 BIG 0 0 w).bind fun o5 => some (o5.1, o5.2)
set_option maxRecDepth 100000 in
set_option maxHeartbeats 4000000 in
theorem gl_X1_setOfRoots_L4 {p : Program} {l : Launch} {e : Env} {s : State} {m : MethodId} {args : Array Value} {below : List Frame} {meth : Method} {c : Code} {D : va_G} {A : Nat → Prop} {cI : ClassId × ClassId} {ad : Nat → Nat} {Q : State → Prop} {o : Int32 × St} (X : gX p s m args meth c cX1_setOfRoots 3 RX1 D cI) (n : Nat) : ∀ {x1 x2 : Int32} {w : St}, f_X1_setOfRoots_L4 n x1 x2 w = some o → G p l e rm_X1_setOfRoots s m args below meth c D A 3 Q (wS ad cI) 0 0 27 [none, some (.int o.1), none] [] o.2 → G p l e rm_X1_setOfRoots s m args below meth c D A 3 Q (wS ad cI) 0 0 4 [some (.ref (ad 3)), some (.int x1), some (.int x2)] [] w := by
  induction n with
  | zero => intro x1 x2 w hf; cases hf
  | succ n ih =>
    intro x1 x2 w hf k
    rw [f_X1_setOfRoots_L4] at hf
    refine g_iload_n X (i := 2) dX1_setOfRoots_4 rfl rfl ?_
    refine g_iconst X dX1_setOfRoots_5 (v := 4) (by decide) ?_
    refine g_icmp_ge X dX1_setOfRoots_6 (tgt := 27) (by decide) hf (fun c1 hf => ?_) (fun c1 hf => ?_)
    · refine g_iload_n X (i := 1) dX1_setOfRoots_9 rfl rfl ?_
      refine g_aload_n X (i := 0) dX1_setOfRoots_10 rfl rfl ?_
      refine g_get X (q0 := 3) (v := .ref (ad 8)) 3 dX1_setOfRoots_11 gC_X1 rfl rfl (by decide) fl_X1_15 rfl rfl ?_
      refine g_iload_n X (i := 2) dX1_setOfRoots_14 rfl rfl ?_
      obtain ⟨hb2, hf⟩ := hfg hf
      refine g_iald X (q0 := 8) (f := w.2 2) dX1_setOfRoots_15 rfl hb2 ?_
      obtain ⟨o3, h4, hf⟩ := hfb hf
      refine g_Ni X (As := [.int (w.2 2 x2.toNatClampNeg)]) (rest := [.int x1]) (c_X6_bit (wf := (wS ad cI)) h4) dX1_setOfRoots_16 ml_X1_38 yv_X6_bit rfl rfl ⟨Nat.le_of_ble_eq_true rfl, Nat.le_of_ble_eq_true rfl⟩ ⟨rfl, rfl⟩ (Nat.le_of_ble_eq_true rfl) ⟨Nat.le_of_ble_eq_true rfl, Nat.le_of_ble_eq_true rfl⟩ ?_
      refine g_ior X dX1_setOfRoots_19 ?_
      refine g_istore_n X (i := 1) dX1_setOfRoots_20 rfl (by decide) rfl ?_
      refine g_iinc X (i := 2) (v := 1) dX1_setOfRoots_21 rfl (by decide) (by decide) rfl ?_
      refine g_goto X dX1_setOfRoots_24 (tgt := 4) (by decide) ?_
      exact ih hf k
    · obtain rfl := Option.some.inj hf
      refine g_sub (losub (lo' := [none, some (.int x1), none]) ⟨rfl, trivial⟩) ?_
      exact k
set_option maxRecDepth 100000 in
set_option maxHeartbeats 4000000 in
theorem c_X1_setOfRoots {l : Launch} {D : va_G} {cI : ClassId × ClassId} {A : Nat → Prop} {ad : Nat → Nat} {w : St} {o : Int32 × St} (hf : f_X1_setOfRoots w = some o) : CTi l D cI A yX1_setOfRoots cX1_setOfRoots 3 (some .int) rm_X1_setOfRoots [.ref (ad 3)] ((wS ad cI) w) o.1 ((wS ad cI) o.2)   := by
  refine CTi.of (by decide +kernel) rfl (Nat.le_of_ble_eq_true rfl) ?_
  intro p e s m args below meth c X hr
  have X : gX p s m args meth c cX1_setOfRoots 3 RX1 D cI := X
  show G _ _ _ _ _ _ _ _ _ _ _ _ _ _ _ _ _ 0 [some (.ref (ad 3)), none, none] [] w
  unfold f_X1_setOfRoots at hf
  refine g_iconst X dX1_setOfRoots_0 (v := 0) (by decide) ?_
  refine g_istore_n X (i := 1) dX1_setOfRoots_1 rfl (by decide) rfl ?_
  refine g_iconst X dX1_setOfRoots_2 (v := 0) (by decide) ?_
  refine g_istore_n X (i := 2) dX1_setOfRoots_3 rfl (by decide) rfl ?_
  obtain ⟨o5, h6, hf⟩ := hfb hf
  refine gl_X1_setOfRoots_L4 X BIG h6 ?_
  refine g_iload_n X (i := 1) dX1_setOfRoots_27 rfl rfl ?_
  exact g_iret X hr dX1_setOfRoots_28 hf
def f_X1_behind_L4 : Nat → Int32 → Int32 → Int32 → St → Option (Int32 × St)
  | 0, _, _, _, _ => none
  | n + 1, x1, x2, x3, w => (if x3 < 72 then (f_X6_bit (x3 / 3) w).bind fun o2 => (if (x1 &&& o2.1) = 0 then f_X1_behind_L4 n x1 x2 (x3 + 1) o2.2 else if ib x3 72 then (f_X6_bit (o2.2.2 1 x3.toNatClampNeg) o2.2).bind fun o6 => f_X1_behind_L4 n x1 (x2 ||| o6.1) (x3 + 1) o6.2 else none) else some (x2, w))
def f_X1_behind (x1 : Int32) (w : St) : Option (Int32 × St) := (f_X1_behind_L4 BIG x1 0 0 w).bind fun o8 => some (o8.1, o8.2)
set_option maxRecDepth 100000 in
set_option maxHeartbeats 4000000 in
theorem gl_X1_behind_L4 {p : Program} {l : Launch} {e : Env} {s : State} {m : MethodId} {args : Array Value} {below : List Frame} {meth : Method} {c : Code} {D : va_G} {A : Nat → Prop} {cI : ClassId × ClassId} {ad : Nat → Nat} {Q : State → Prop} {o : Int32 × St} (X : gX p s m args meth c cX1_behind 4 RX1 D cI) (n : Nat) : ∀ {x1 x2 x3 : Int32} {w : St}, f_X1_behind_L4 n x1 x2 x3 w = some o → G p l e rm_X1_behind s m args below meth c D A 4 Q (wS ad cI) 0 0 42 [none, none, some (.int o.1), none] [] o.2 → G p l e rm_X1_behind s m args below meth c D A 4 Q (wS ad cI) 0 0 4 [some (.ref (ad 3)), some (.int x1), some (.int x2), some (.int x3)] [] w := by
  induction n with
  | zero => intro x1 x2 x3 w hf; cases hf
  | succ n ih =>
    intro x1 x2 x3 w hf k
    rw [f_X1_behind_L4] at hf
    refine g_iload_n X (i := 3) dX1_behind_4 rfl rfl ?_
    refine g_aload_n X (i := 0) dX1_behind_5 rfl rfl ?_
    refine g_get X (q0 := 3) (v := .ref (ad 7)) 2 dX1_behind_6 gC_X1 rfl rfl (by decide) fl_X1_9 rfl rfl ?_
    refine g_alen X (q0 := 7) (f := w.2 1) (v := 72) dX1_behind_9 rfl rfl ?_
    refine g_icmp_ge X dX1_behind_10 (tgt := 42) (by decide) hf (fun c1 hf => ?_) (fun c1 hf => ?_)
    · refine g_iload_n X (i := 1) dX1_behind_13 rfl rfl ?_
      refine g_iload_n X (i := 3) dX1_behind_14 rfl rfl ?_
      refine g_iconst X dX1_behind_15 (v := 3) (by decide) ?_
      refine g_idiv X dX1_behind_16 (by decide) ?_
      obtain ⟨o2, h3, hf⟩ := hfb hf
      refine g_Ni X (As := [.int (x3 / 3)]) (rest := [.int x1]) (c_X6_bit (wf := (wS ad cI)) h3) dX1_behind_17 ml_X1_38 yv_X6_bit rfl rfl ⟨Nat.le_of_ble_eq_true rfl, Nat.le_of_ble_eq_true rfl⟩ ⟨rfl, rfl⟩ (Nat.le_of_ble_eq_true rfl) ⟨Nat.le_of_ble_eq_true rfl, Nat.le_of_ble_eq_true rfl⟩ ?_
      refine g_iand X dX1_behind_20 ?_
      refine g_if_eq X dX1_behind_21 (tgt := 36) (by decide) hf (fun c4 hf => ?_) (fun c4 hf => ?_)
      · refine g_iinc X (i := 3) (v := 1) dX1_behind_36 rfl (by decide) (by decide) rfl ?_
        refine g_goto X dX1_behind_39 (tgt := 4) (by decide) ?_
        exact ih hf k
      · refine g_iload_n X (i := 2) dX1_behind_24 rfl rfl ?_
        refine g_aload_n X (i := 0) dX1_behind_25 rfl rfl ?_
        refine g_get X (q0 := 3) (v := .ref (ad 7)) 2 dX1_behind_26 gC_X1 rfl rfl (by decide) fl_X1_9 rfl rfl ?_
        refine g_iload_n X (i := 3) dX1_behind_29 rfl rfl ?_
        obtain ⟨hb5, hf⟩ := hfg hf
        refine g_iald X (q0 := 7) (f := o2.2.2 1) dX1_behind_30 rfl hb5 ?_
        obtain ⟨o6, h7, hf⟩ := hfb hf
        refine g_Ni X (As := [.int (o2.2.2 1 x3.toNatClampNeg)]) (rest := [.int x2]) (c_X6_bit (wf := (wS ad cI)) h7) dX1_behind_31 ml_X1_38 yv_X6_bit rfl rfl ⟨Nat.le_of_ble_eq_true rfl, Nat.le_of_ble_eq_true rfl⟩ ⟨rfl, rfl⟩ (Nat.le_of_ble_eq_true rfl) ⟨Nat.le_of_ble_eq_true rfl, Nat.le_of_ble_eq_true rfl⟩ ?_
        refine g_ior X dX1_behind_34 ?_
        refine g_istore_n X (i := 2) dX1_behind_35 rfl (by decide) rfl ?_
        refine g_iinc X (i := 3) (v := 1) dX1_behind_36 rfl (by decide) (by decide) rfl ?_
        refine g_goto X dX1_behind_39 (tgt := 4) (by decide) ?_
        exact ih hf k
    · obtain rfl := Option.some.inj hf
      refine g_sub (losub (lo' := [none, none, some (.int x2), none]) ⟨rfl, trivial⟩) ?_
      exact k
set_option maxRecDepth 100000 in
set_option maxHeartbeats 4000000 in
theorem c_X1_behind {l : Launch} {D : va_G} {cI : ClassId × ClassId} {A : Nat → Prop} {ad : Nat → Nat} {x1 : Int32} {w : St} {o : Int32 × St} (hf : f_X1_behind x1 w = some o) : CTi l D cI A yX1_behind cX1_behind 4 (some .int) rm_X1_behind [.ref (ad 3), .int x1] ((wS ad cI) w) o.1 ((wS ad cI) o.2)   := by
  refine CTi.of (by decide +kernel) rfl (Nat.le_of_ble_eq_true rfl) ?_
  intro p e s m args below meth c X hr
  have X : gX p s m args meth c cX1_behind 4 RX1 D cI := X
  show G _ _ _ _ _ _ _ _ _ _ _ _ _ _ _ _ _ 0 [some (.ref (ad 3)), some (.int x1), none, none] [] w
  unfold f_X1_behind at hf
  refine g_iconst X dX1_behind_0 (v := 0) (by decide) ?_
  refine g_istore_n X (i := 2) dX1_behind_1 rfl (by decide) rfl ?_
  refine g_iconst X dX1_behind_2 (v := 0) (by decide) ?_
  refine g_istore_n X (i := 3) dX1_behind_3 rfl (by decide) rfl ?_
  obtain ⟨o8, h9, hf⟩ := hfb hf
  refine gl_X1_behind_L4 X BIG h9 ?_
  refine g_iload_n X (i := 2) dX1_behind_42 rfl rfl ?_
  exact g_iret X hr dX1_behind_43 hf
def f_X1_reachedFrom_L12 : Nat → Int32 → Int32 → Int32 → Int32 → St → Option (Int32 × St)
  | 0, _, _, _, _, _ => none
  | n + 1, x2, x3, x4, x5, w => (if x5 < 24 then (if x4 = x3 then some (x4, w) else (f_X1_behind x4 w).bind fun o3 => f_X1_reachedFrom_L12 n x2 x4 (x4 ||| (o3.1 &&& (x2 ^^^ (-1)))) (x5 + 1) o3.2) else some (x4, w))
def f_X1_reachedFrom (x1 x2 : Int32) (w : St) : Option (Int32 × St) := (f_X1_reachedFrom_L12 BIG x2 0 (x1 &&& (x2 ^^^ (-1))) 0 w).bind fun o5 => some (o5.1, o5.2)
set_option maxRecDepth 100000 in
set_option maxHeartbeats 4000000 in
theorem gl_X1_reachedFrom_L12 {p : Program} {l : Launch} {e : Env} {s : State} {m : MethodId} {args : Array Value} {below : List Frame} {meth : Method} {c : Code} {D : va_G} {A : Nat → Prop} {cI : ClassId × ClassId} {ad : Nat → Nat} {Q : State → Prop} {o : Int32 × St} (X : gX p s m args meth c cX1_reachedFrom 6 RX1 D cI) (n : Nat) : ∀ {x2 x3 x4 x5 : Int32} {w : St}, f_X1_reachedFrom_L12 n x2 x3 x4 x5 w = some o → G p l e rm_X1_reachedFrom s m args below meth c D A 6 Q (wS ad cI) 0 0 48 [none, none, none, none, some (.int o.1), none] [] o.2 → G p l e rm_X1_reachedFrom s m args below meth c D A 6 Q (wS ad cI) 0 0 12 [some (.ref (ad 3)), none, some (.int x2), some (.int x3), some (.int x4), some (.int x5)] [] w := by
  induction n with
  | zero => intro x2 x3 x4 x5 w hf; cases hf
  | succ n ih =>
    intro x2 x3 x4 x5 w hf k
    rw [f_X1_reachedFrom_L12] at hf
    refine g_iload X dX1_reachedFrom_12 rfl ?_
    refine g_bipush X dX1_reachedFrom_14 (v := 24) (by decide) ?_
    refine g_icmp_ge X dX1_reachedFrom_16 (tgt := 48) (by decide) hf (fun c1 hf => ?_) (fun c1 hf => ?_)
    · refine g_iload X dX1_reachedFrom_19 rfl ?_
      refine g_iload_n X (i := 3) dX1_reachedFrom_21 rfl rfl ?_
      refine g_icmp_eq X dX1_reachedFrom_22 (tgt := 48) (by decide) hf (fun c2 hf => ?_) (fun c2 hf => ?_)
      · obtain rfl := Option.some.inj hf
        refine g_sub (losub (lo' := [none, none, none, none, some (.int x4), none]) ⟨rfl, trivial⟩) ?_
        exact k
      · refine g_iload X dX1_reachedFrom_25 rfl ?_
        refine g_istore_n X (i := 3) dX1_reachedFrom_27 rfl (by decide) rfl ?_
        refine g_iload X dX1_reachedFrom_28 rfl ?_
        refine g_aload_n X (i := 0) dX1_reachedFrom_30 rfl rfl ?_
        refine g_iload_n X (i := 3) dX1_reachedFrom_31 rfl rfl ?_
        obtain ⟨o3, h4, hf⟩ := hfb hf
        refine g_Vi X (q0 := 3) (As := [.int x4]) (rest := [.int x4]) (c_X1_behind h4) dX1_reachedFrom_32 ml_X1_75 yv_X1_behind rfl rfl rfl rfl ⟨Nat.le_of_ble_eq_true rfl, Nat.le_of_ble_eq_true rfl⟩ ⟨rfl, rfl⟩ (Nat.le_of_ble_eq_true rfl) ⟨Nat.le_of_ble_eq_true rfl, Nat.le_of_ble_eq_true rfl⟩ ?_
        refine g_iload_n X (i := 2) dX1_reachedFrom_35 rfl rfl ?_
        refine g_iconst X dX1_reachedFrom_36 (v := (-1)) (by decide) ?_
        refine g_ixor X dX1_reachedFrom_37 ?_
        refine g_iand X dX1_reachedFrom_38 ?_
        refine g_ior X dX1_reachedFrom_39 ?_
        refine g_istore X dX1_reachedFrom_40 (by decide) rfl ?_
        refine g_iinc X (i := 5) (v := 1) dX1_reachedFrom_42 rfl (by decide) (by decide) rfl ?_
        refine g_goto X dX1_reachedFrom_45 (tgt := 12) (by decide) ?_
        exact ih hf k
    · obtain rfl := Option.some.inj hf
      refine g_sub (losub (lo' := [none, none, none, none, some (.int x4), none]) ⟨rfl, trivial⟩) ?_
      exact k
set_option maxRecDepth 100000 in
set_option maxHeartbeats 4000000 in
theorem c_X1_reachedFrom {l : Launch} {D : va_G} {cI : ClassId × ClassId} {A : Nat → Prop} {ad : Nat → Nat} {x1 x2 : Int32} {w : St} {o : Int32 × St} (hf : f_X1_reachedFrom x1 x2 w = some o) : CTi l D cI A yX1_reachedFrom cX1_reachedFrom 6 (some .int) rm_X1_reachedFrom [.ref (ad 3), .int x1, .int x2] ((wS ad cI) w) o.1 ((wS ad cI) o.2)   := by
  refine CTi.of (by decide +kernel) rfl (Nat.le_of_ble_eq_true rfl) ?_
  intro p e s m args below meth c X hr
  have X : gX p s m args meth c cX1_reachedFrom 6 RX1 D cI := X
  show G _ _ _ _ _ _ _ _ _ _ _ _ _ _ _ _ _ 0 [some (.ref (ad 3)), some (.int x1), some (.int x2), none, none, none] [] w
  unfold f_X1_reachedFrom at hf
  refine g_iconst X dX1_reachedFrom_0 (v := 0) (by decide) ?_
  refine g_istore_n X (i := 3) dX1_reachedFrom_1 rfl (by decide) rfl ?_
  refine g_iload_n X (i := 1) dX1_reachedFrom_2 rfl rfl ?_
  refine g_iload_n X (i := 2) dX1_reachedFrom_3 rfl rfl ?_
  refine g_iconst X dX1_reachedFrom_4 (v := (-1)) (by decide) ?_
  refine g_ixor X dX1_reachedFrom_5 ?_
  refine g_iand X dX1_reachedFrom_6 ?_
  refine g_istore X dX1_reachedFrom_7 (by decide) rfl ?_
  refine g_iconst X dX1_reachedFrom_9 (v := 0) (by decide) ?_
  refine g_istore X dX1_reachedFrom_10 (by decide) rfl ?_
  refine g_sub (losub (lo' := [some (.ref (ad 3)), none, some (.int x2), some (.int 0), some (.int (x1 &&& (x2 ^^^ (-1)))), some (.int 0)]) ⟨rfl, rfl, rfl, rfl, rfl, trivial⟩) ?_
  obtain ⟨o5, h6, hf⟩ := hfb hf
  refine gl_X1_reachedFrom_L12 X BIG h6 ?_
  refine g_iload X dX1_reachedFrom_48 rfl ?_
  exact g_iret X hr dX1_reachedFrom_50 hf
def f_X1_reachedByRoots (w : St) : Option (Int32 × St) := (f_X1_setOfRoots w).bind fun o1 => (f_X1_reachedFrom o1.1 0 o1.2).bind fun o3 => some (o3.1, o3.2)
set_option maxRecDepth 100000 in
set_option maxHeartbeats 4000000 in
theorem c_X1_reachedByRoots {l : Launch} {D : va_G} {cI : ClassId × ClassId} {A : Nat → Prop} {ad : Nat → Nat} {w : St} {o : Int32 × St} (hf : f_X1_reachedByRoots w = some o) : CTi l D cI A yX1_reachedByRoots cX1_reachedByRoots 1 (some .int) rm_X1_reachedByRoots [.ref (ad 3)] ((wS ad cI) w) o.1 ((wS ad cI) o.2)   := by
  refine CTi.of (by decide +kernel) rfl (Nat.le_of_ble_eq_true rfl) ?_
  intro p e s m args below meth c X hr
  have X : gX p s m args meth c cX1_reachedByRoots 1 RX1 D cI := X
  show G _ _ _ _ _ _ _ _ _ _ _ _ _ _ _ _ _ 0 [some (.ref (ad 3))] [] w
  unfold f_X1_reachedByRoots at hf
  refine g_aload_n X (i := 0) dX1_reachedByRoots_0 rfl rfl ?_
  refine g_aload_n X (i := 0) dX1_reachedByRoots_1 rfl rfl ?_
  obtain ⟨o1, h2, hf⟩ := hfb hf
  refine g_Vi X (q0 := 3) (As := []) (rest := [.ref (ad 3)]) (c_X1_setOfRoots h2) dX1_reachedByRoots_2 ml_X1_78 yv_X1_setOfRoots rfl rfl rfl rfl ⟨Nat.le_of_ble_eq_true rfl, Nat.le_of_ble_eq_true rfl⟩ ⟨rfl, rfl⟩ (Nat.le_of_ble_eq_true rfl) ⟨Nat.le_of_ble_eq_true rfl, Nat.le_of_ble_eq_true rfl⟩ ?_
  refine g_iconst X dX1_reachedByRoots_5 (v := 0) (by decide) ?_
  obtain ⟨o3, h4, hf⟩ := hfb hf
  refine g_Vi X (q0 := 3) (As := [.int o1.1, .int 0]) (rest := []) (c_X1_reachedFrom h4) dX1_reachedByRoots_6 ml_X1_82 yv_X1_reachedFrom rfl rfl rfl rfl ⟨Nat.le_of_ble_eq_true rfl, Nat.le_of_ble_eq_true rfl⟩ ⟨rfl, rfl⟩ (Nat.le_of_ble_eq_true rfl) ⟨Nat.le_of_ble_eq_true rfl, Nat.le_of_ble_eq_true rfl⟩ ?_
  exact g_iret X hr dX1_reachedByRoots_9 hf
def f_X1_reachedByAll (w : St) : Option (Int32 × St) := (f_X1_setOfRoots w).bind fun o1 => (f_X3_asSet_5 o1.2).bind fun o3 => (f_X1_reachedFrom (o1.1 ||| o3.1) 0 o3.2).bind fun o5 => some (o5.1, o5.2)
set_option maxRecDepth 100000 in
set_option maxHeartbeats 4000000 in
theorem c_X1_reachedByAll {l : Launch} {D : va_G} {cI : ClassId × ClassId} {A : Nat → Prop} {ad : Nat → Nat} {w : St} {o : Int32 × St} (hf : f_X1_reachedByAll w = some o) : CTi l D cI A yX1_reachedByAll cX1_reachedByAll 1 (some .int) rm_X1_reachedByAll [.ref (ad 3)] ((wS ad cI) w) o.1 ((wS ad cI) o.2)   := by
  refine CTi.of (by decide +kernel) rfl (Nat.le_of_ble_eq_true rfl) ?_
  intro p e s m args below meth c X hr
  have X : gX p s m args meth c cX1_reachedByAll 1 RX1 D cI := X
  show G _ _ _ _ _ _ _ _ _ _ _ _ _ _ _ _ _ 0 [some (.ref (ad 3))] [] w
  unfold f_X1_reachedByAll at hf
  refine g_aload_n X (i := 0) dX1_reachedByAll_0 rfl rfl ?_
  refine g_aload_n X (i := 0) dX1_reachedByAll_1 rfl rfl ?_
  obtain ⟨o1, h2, hf⟩ := hfb hf
  refine g_Vi X (q0 := 3) (As := []) (rest := [.ref (ad 3)]) (c_X1_setOfRoots h2) dX1_reachedByAll_2 ml_X1_78 yv_X1_setOfRoots rfl rfl rfl rfl ⟨Nat.le_of_ble_eq_true rfl, Nat.le_of_ble_eq_true rfl⟩ ⟨rfl, rfl⟩ (Nat.le_of_ble_eq_true rfl) ⟨Nat.le_of_ble_eq_true rfl, Nat.le_of_ble_eq_true rfl⟩ ?_
  refine g_aload_n X (i := 0) dX1_reachedByAll_5 rfl rfl ?_
  refine g_get X (q0 := 3) (v := .ref (ad 5)) 5 dX1_reachedByAll_6 gC_X1 rfl rfl (by decide) fl_X1_24 rfl rfl ?_
  obtain ⟨o3, h4, hf⟩ := hfb hf
  refine g_Vi X (q0 := 5) (As := []) (rest := [.int o1.1, .ref (ad 3)]) (c_X3_asSet_5 h4) dX1_reachedByAll_9 ml_X1_85 yv_X3_asSet rfl rfl rfl rfl ⟨Nat.le_of_ble_eq_true rfl, Nat.le_of_ble_eq_true rfl⟩ ⟨rfl, rfl⟩ (Nat.le_of_ble_eq_true rfl) ⟨Nat.le_of_ble_eq_true rfl, Nat.le_of_ble_eq_true rfl⟩ ?_
  refine g_ior X dX1_reachedByAll_12 ?_
  refine g_iconst X dX1_reachedByAll_13 (v := 0) (by decide) ?_
  obtain ⟨o5, h6, hf⟩ := hfb hf
  refine g_Vi X (q0 := 3) (As := [.int (o1.1 ||| o3.1), .int 0]) (rest := []) (c_X1_reachedFrom h6) dX1_reachedByAll_14 ml_X1_82 yv_X1_reachedFrom rfl rfl rfl rfl ⟨Nat.le_of_ble_eq_true rfl, Nat.le_of_ble_eq_true rfl⟩ ⟨rfl, rfl⟩ (Nat.le_of_ble_eq_true rfl) ⟨Nat.le_of_ble_eq_true rfl, Nat.le_of_ble_eq_true rfl⟩ ?_
  exact g_iret X hr dX1_reachedByAll_17 hf
