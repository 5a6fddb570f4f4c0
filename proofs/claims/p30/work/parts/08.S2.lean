def f_X4_isThere (w : St) : Option (Int32 × St) := (if (w.1 15) = 0 then some (0, w) else some (1, w))
set_option maxRecDepth 100000 in
set_option maxHeartbeats 4000000 in
theorem c_X4_isThere {l : Launch} {D : va_G} {cI : ClassId × ClassId} {A : Nat → Prop} {ad : Nat → Nat} {w : St} {o : Int32 × St} (hf : f_X4_isThere w = some o) : CTi l D cI A yX4_isThere cX4_isThere 1 (some .boolean) rm_X4_isThere [.ref (ad 4)] ((wS ad cI) w) o.1 ((wS ad cI) o.2)   := by
  refine CTi.of (by decide +kernel) rfl (Nat.le_of_ble_eq_true rfl) ?_
  intro p e s m args below meth c X hr
  have X : gX p s m args meth c cX4_isThere 1 RX4 D cI := X
  show G _ _ _ _ _ _ _ _ _ _ _ _ _ _ _ _ _ 0 [some (.ref (ad 4))] [] w
  unfold f_X4_isThere at hf
  refine g_aload_n X (i := 0) dX4_isThere_0 rfl rfl ?_
  refine g_get X (q0 := 4) (v := .int (w.1 15)) 0 dX4_isThere_1 gC_X4 rfl rfl (by decide) fl_X4_9 rfl rfl ?_
  refine g_if_eq X dX4_isThere_4 (tgt := 11) (by decide) hf (fun c1 hf => ?_) (fun c1 hf => ?_)
  · refine g_iconst X dX4_isThere_11 (v := 0) (by decide) ?_
    exact g_zret X hr dX4_isThere_12 rfl hf
  · refine g_iconst X dX4_isThere_7 (v := 1) (by decide) ?_
    refine g_goto X dX4_isThere_8 (tgt := 12) (by decide) ?_
    exact g_zret X hr dX4_isThere_12 rfl hf
def f_X4_needsCare (w : St) : Option (Int32 × St) := (if (w.1 15) = 1 then some (1, w) else (if (w.1 15) = 2 then some (1, w) else some (0, w)))
set_option maxRecDepth 100000 in
set_option maxHeartbeats 4000000 in
theorem c_X4_needsCare {l : Launch} {D : va_G} {cI : ClassId × ClassId} {A : Nat → Prop} {ad : Nat → Nat} {w : St} {o : Int32 × St} (hf : f_X4_needsCare w = some o) : CTi l D cI A yX4_needsCare cX4_needsCare 1 (some .boolean) rm_X4_needsCare [.ref (ad 4)] ((wS ad cI) w) o.1 ((wS ad cI) o.2)   := by
  refine CTi.of (by decide +kernel) rfl (Nat.le_of_ble_eq_true rfl) ?_
  intro p e s m args below meth c X hr
  have X : gX p s m args meth c cX4_needsCare 1 RX4 D cI := X
  show G _ _ _ _ _ _ _ _ _ _ _ _ _ _ _ _ _ 0 [some (.ref (ad 4))] [] w
  unfold f_X4_needsCare at hf
  refine g_aload_n X (i := 0) dX4_needsCare_0 rfl rfl ?_
  refine g_get X (q0 := 4) (v := .int (w.1 15)) 0 dX4_needsCare_1 gC_X4 rfl rfl (by decide) fl_X4_9 rfl rfl ?_
  refine g_iconst X dX4_needsCare_4 (v := 1) (by decide) ?_
  refine g_icmp_eq X dX4_needsCare_5 (tgt := 16) (by decide) hf (fun c1 hf => ?_) (fun c1 hf => ?_)
  · refine g_iconst X dX4_needsCare_16 (v := 1) (by decide) ?_
    refine g_goto X dX4_needsCare_17 (tgt := 21) (by decide) ?_
    exact g_zret X hr dX4_needsCare_21 rfl hf
  · refine g_aload_n X (i := 0) dX4_needsCare_8 rfl rfl ?_
    refine g_get X (q0 := 4) (v := .int (w.1 15)) 0 dX4_needsCare_9 gC_X4 rfl rfl (by decide) fl_X4_9 rfl rfl ?_
    refine g_iconst X dX4_needsCare_12 (v := 2) (by decide) ?_
    refine g_icmp_ne X dX4_needsCare_13 (tgt := 20) (by decide) hf (fun c2 hf => ?_) (fun c2 hf => ?_)
    · refine g_iconst X dX4_needsCare_16 (v := 1) (by decide) ?_
      refine g_goto X dX4_needsCare_17 (tgt := 21) (by decide) ?_
      exact g_zret X hr dX4_needsCare_21 rfl hf
    · refine g_iconst X dX4_needsCare_20 (v := 0) (by decide) ?_
      exact g_zret X hr dX4_needsCare_21 rfl hf
def f_X4_isBlack (x1 : Int32) (w : St) : Option (Int32 × St) := (f_X6_bit x1 w).bind fun o1 => (if ((w.1 17) &&& o1.1) = 0 then some (0, o1.2) else some (1, o1.2))
set_option maxRecDepth 100000 in
set_option maxHeartbeats 4000000 in
theorem c_X4_isBlack {l : Launch} {D : va_G} {cI : ClassId × ClassId} {A : Nat → Prop} {ad : Nat → Nat} {x1 : Int32} {w : St} {o : Int32 × St} (hf : f_X4_isBlack x1 w = some o) : CTi l D cI A yX4_isBlack cX4_isBlack 2 (some .boolean) rm_X4_isBlack [.ref (ad 4), .int x1] ((wS ad cI) w) o.1 ((wS ad cI) o.2)   := by
  refine CTi.of (by decide +kernel) rfl (Nat.le_of_ble_eq_true rfl) ?_
  intro p e s m args below meth c X hr
  have X : gX p s m args meth c cX4_isBlack 2 RX4 D cI := X
  show G _ _ _ _ _ _ _ _ _ _ _ _ _ _ _ _ _ 0 [some (.ref (ad 4)), some (.int x1)] [] w
  unfold f_X4_isBlack at hf
  refine g_aload_n X (i := 0) dX4_isBlack_0 rfl rfl ?_
  refine g_get X (q0 := 4) (v := .int (w.1 17)) 2 dX4_isBlack_1 gC_X4 rfl rfl (by decide) fl_X4_22 rfl rfl ?_
  refine g_iload_n X (i := 1) dX4_isBlack_4 rfl rfl ?_
  obtain ⟨o1, h2, hf⟩ := hfb hf
  refine g_Ni X (As := [.int x1]) (rest := [.int (w.1 17)]) (c_X6_bit (wf := (wS ad cI)) h2) dX4_isBlack_5 ml_X4_25 yv_X6_bit rfl rfl ⟨Nat.le_of_ble_eq_true rfl, Nat.le_of_ble_eq_true rfl⟩ ⟨rfl, rfl⟩ (Nat.le_of_ble_eq_true rfl) ⟨Nat.le_of_ble_eq_true rfl, Nat.le_of_ble_eq_true rfl⟩ ?_
  refine g_iand X dX4_isBlack_8 ?_
  refine g_if_eq X dX4_isBlack_9 (tgt := 16) (by decide) hf (fun c3 hf => ?_) (fun c3 hf => ?_)
  · refine g_iconst X dX4_isBlack_16 (v := 0) (by decide) ?_
    exact g_zret X hr dX4_isBlack_17 rfl hf
  · refine g_iconst X dX4_isBlack_12 (v := 1) (by decide) ?_
    refine g_goto X dX4_isBlack_13 (tgt := 17) (by decide) ?_
    exact g_zret X hr dX4_isBlack_17 rfl hf
def f_X4_colourOf (x1 : Int32) (w : St) : Option (Int32 × St) := (f_X4_isBlack x1 w).bind fun o1 => (if o1.1 = 0 then (f_X6_bit x1 o1.2).bind fun o4 => (if ((o1.2.1 16) &&& o4.1) = 0 then some (0, o4.2) else some (1, o4.2)) else some (2, o1.2))
set_option maxRecDepth 100000 in
set_option maxHeartbeats 4000000 in
theorem c_X4_colourOf {l : Launch} {D : va_G} {cI : ClassId × ClassId} {A : Nat → Prop} {ad : Nat → Nat} {x1 : Int32} {w : St} {o : Int32 × St} (hf : f_X4_colourOf x1 w = some o) : CTi l D cI A yX4_colourOf cX4_colourOf 2 (some .int) rm_X4_colourOf [.ref (ad 4), .int x1] ((wS ad cI) w) o.1 ((wS ad cI) o.2)   := by
  refine CTi.of (by decide +kernel) rfl (Nat.le_of_ble_eq_true rfl) ?_
  intro p e s m args below meth c X hr
  have X : gX p s m args meth c cX4_colourOf 2 RX4 D cI := X
  show G _ _ _ _ _ _ _ _ _ _ _ _ _ _ _ _ _ 0 [some (.ref (ad 4)), some (.int x1)] [] w
  unfold f_X4_colourOf at hf
  refine g_aload_n X (i := 0) dX4_colourOf_0 rfl rfl ?_
  refine g_iload_n X (i := 1) dX4_colourOf_1 rfl rfl ?_
  obtain ⟨o1, h2, hf⟩ := hfb hf
  refine g_Vi X (q0 := 4) (As := [.int x1]) (rest := []) (c_X4_isBlack h2) dX4_colourOf_2 ml_X4_29 yv_X4_isBlack rfl rfl rfl rfl ⟨Nat.le_of_ble_eq_true rfl, Nat.le_of_ble_eq_true rfl⟩ ⟨rfl, rfl⟩ (Nat.le_of_ble_eq_true rfl) ⟨Nat.le_of_ble_eq_true rfl, Nat.le_of_ble_eq_true rfl⟩ ?_
  refine g_if_eq X dX4_colourOf_5 (tgt := 10) (by decide) hf (fun c3 hf => ?_) (fun c3 hf => ?_)
  · refine g_aload_n X (i := 0) dX4_colourOf_10 rfl rfl ?_
    refine g_get X (q0 := 4) (v := .int (o1.2.1 16)) 1 dX4_colourOf_11 gC_X4 rfl rfl (by decide) fl_X4_33 rfl rfl ?_
    refine g_iload_n X (i := 1) dX4_colourOf_14 rfl rfl ?_
    obtain ⟨o4, h5, hf⟩ := hfb hf
    refine g_Ni X (As := [.int x1]) (rest := [.int (o1.2.1 16)]) (c_X6_bit (wf := (wS ad cI)) h5) dX4_colourOf_15 ml_X4_25 yv_X6_bit rfl rfl ⟨Nat.le_of_ble_eq_true rfl, Nat.le_of_ble_eq_true rfl⟩ ⟨rfl, rfl⟩ (Nat.le_of_ble_eq_true rfl) ⟨Nat.le_of_ble_eq_true rfl, Nat.le_of_ble_eq_true rfl⟩ ?_
    refine g_iand X dX4_colourOf_18 ?_
    refine g_if_eq X dX4_colourOf_19 (tgt := 26) (by decide) hf (fun c6 hf => ?_) (fun c6 hf => ?_)
    · refine g_iconst X dX4_colourOf_26 (v := 0) (by decide) ?_
      exact g_iret X hr dX4_colourOf_27 hf
    · refine g_iconst X dX4_colourOf_22 (v := 1) (by decide) ?_
      refine g_goto X dX4_colourOf_23 (tgt := 27) (by decide) ?_
      exact g_iret X hr dX4_colourOf_27 hf
  · refine g_iconst X dX4_colourOf_8 (v := 2) (by decide) ?_
    exact g_iret X hr dX4_colourOf_9 hf
def f_X4_shade (x1 : Int32) (w : St) : Option (Int32 × St) := (f_X6_bit x1 w).bind fun o1 => (if o1.1 = 0 then some (0, o1.2) else (if (((o1.2.1 16) ||| (o1.2.1 17)) &&& o1.1) = 0 then (f_X3_append_6 x1 (sR o1.2 16 ((o1.2.1 16) ||| o1.1))).bind fun o5 => some (0, o5.2) else some (0, o1.2)))
set_option maxRecDepth 100000 in
set_option maxHeartbeats 4000000 in
theorem c_X4_shade {l : Launch} {D : va_G} {cI : ClassId × ClassId} {A : Nat → Prop} {ad : Nat → Nat} {x1 : Int32} {w : St} {o : Int32 × St} (hf : f_X4_shade x1 w = some o) : CTv l D cI A yX4_shade cX4_shade 3 (none) rm_X4_shade [.ref (ad 4), .int x1] ((wS ad cI) w) ((wS ad cI) o.2)   := by
  refine CTv.of (by decide +kernel) rfl (Nat.le_of_ble_eq_true rfl) ?_
  intro p e s m args below meth c X hr
  have X : gX p s m args meth c cX4_shade 3 RX4 D cI := X
  show G _ _ _ _ _ _ _ _ _ _ _ _ _ _ _ _ _ 0 [some (.ref (ad 4)), some (.int x1), none] [] w
  unfold f_X4_shade at hf
  refine g_iload_n X (i := 1) dX4_shade_0 rfl rfl ?_
  obtain ⟨o1, h2, hf⟩ := hfb hf
  refine g_Ni X (As := [.int x1]) (rest := []) (c_X6_bit (wf := (wS ad cI)) h2) dX4_shade_1 ml_X4_25 yv_X6_bit rfl rfl ⟨Nat.le_of_ble_eq_true rfl, Nat.le_of_ble_eq_true rfl⟩ ⟨rfl, rfl⟩ (Nat.le_of_ble_eq_true rfl) ⟨Nat.le_of_ble_eq_true rfl, Nat.le_of_ble_eq_true rfl⟩ ?_
  refine g_istore_n X (i := 2) dX4_shade_4 rfl (by decide) rfl ?_
  refine g_iload_n X (i := 2) dX4_shade_5 rfl rfl ?_
  refine g_if_eq X dX4_shade_6 (tgt := 23) (by decide) hf (fun c3 hf => ?_) (fun c3 hf => ?_)
  · exact g_vret X hr dX4_shade_23 hf
  · refine g_aload_n X (i := 0) dX4_shade_9 rfl rfl ?_
    refine g_get X (q0 := 4) (v := .int (o1.2.1 16)) 1 dX4_shade_10 gC_X4 rfl rfl (by decide) fl_X4_33 rfl rfl ?_
    refine g_aload_n X (i := 0) dX4_shade_13 rfl rfl ?_
    refine g_get X (q0 := 4) (v := .int (o1.2.1 17)) 2 dX4_shade_14 gC_X4 rfl rfl (by decide) fl_X4_22 rfl rfl ?_
    refine g_ior X dX4_shade_17 ?_
    refine g_iload_n X (i := 2) dX4_shade_18 rfl rfl ?_
    refine g_iand X dX4_shade_19 ?_
    refine g_if_eq X dX4_shade_20 (tgt := 24) (by decide) hf (fun c4 hf => ?_) (fun c4 hf => ?_)
    · refine g_aload_n X (i := 0) dX4_shade_24 rfl rfl ?_
      refine g_dup X dX4_shade_25 rfl ?_
      refine g_get X (q0 := 4) (v := .int (o1.2.1 16)) 1 dX4_shade_26 gC_X4 rfl rfl (by decide) fl_X4_33 rfl rfl ?_
      refine g_iload_n X (i := 2) dX4_shade_29 rfl rfl ?_
      refine g_ior X dX4_shade_30 ?_
      refine g_put X (q0 := 4) 1 dX4_shade_31 gC_X4 rfl rfl (by decide) fl_X4_33 rfl rfl rfl rfl (Nat.le_of_ble_eq_true rfl) (pwS_16 ad cI _ _) ?_
      refine g_aload_n X (i := 0) dX4_shade_34 rfl rfl ?_
      refine g_get X (q0 := 4) (v := .ref (ad 6)) 3 dX4_shade_35 gC_X4 rfl rfl (by decide) fl_X4_18 rfl rfl ?_
      refine g_iload_n X (i := 1) dX4_shade_38 rfl rfl ?_
      obtain ⟨o5, h6, hf⟩ := hfb hf
      refine g_Vv X (q0 := 6) (As := [.int x1]) (rest := []) (c_X3_append_6 h6) dX4_shade_39 ml_X4_41 yv_X3_append rfl rfl rfl rfl ⟨Nat.le_of_ble_eq_true rfl, Nat.le_of_ble_eq_true rfl⟩ ⟨rfl, rfl⟩ (Nat.le_of_ble_eq_true rfl) ⟨Nat.le_of_ble_eq_true rfl, Nat.le_of_ble_eq_true rfl⟩ ?_
      exact g_vret X hr dX4_shade_42 hf
    · exact g_vret X hr dX4_shade_23 hf
def f_X4_colourNewOne (x1 : Int32) (w : St) : Option (Int32 × St) := (f_X4_needsCare w).bind fun o1 => (if o1.1 = 0 then (if (o1.2.1 15) = 3 then (if x1 < (o1.2.1 18) then some (0, o1.2) else (f_X6_bit x1 o1.2).bind fun o6 => some (0, sR o6.2 17 ((o1.2.1 17) ||| o6.1))) else some (0, o1.2)) else (f_X6_bit x1 o1.2).bind fun o8 => some (0, sR o8.2 17 ((o1.2.1 17) ||| o8.1)))
set_option maxRecDepth 100000 in
set_option maxHeartbeats 4000000 in
theorem c_X4_colourNewOne {l : Launch} {D : va_G} {cI : ClassId × ClassId} {A : Nat → Prop} {ad : Nat → Nat} {x1 : Int32} {w : St} {o : Int32 × St} (hf : f_X4_colourNewOne x1 w = some o) : CTv l D cI A yX4_colourNewOne cX4_colourNewOne 2 (none) rm_X4_colourNewOne [.ref (ad 4), .int x1] ((wS ad cI) w) ((wS ad cI) o.2)   := by
  refine CTv.of (by decide +kernel) rfl (Nat.le_of_ble_eq_true rfl) ?_
  intro p e s m args below meth c X hr
  have X : gX p s m args meth c cX4_colourNewOne 2 RX4 D cI := X
  show G _ _ _ _ _ _ _ _ _ _ _ _ _ _ _ _ _ 0 [some (.ref (ad 4)), some (.int x1)] [] w
  unfold f_X4_colourNewOne at hf
  refine g_aload_n X (i := 0) dX4_colourNewOne_0 rfl rfl ?_
  obtain ⟨o1, h2, hf⟩ := hfb hf
  refine g_Vi X (q0 := 4) (As := []) (rest := []) (c_X4_needsCare h2) dX4_colourNewOne_1 ml_X4_45 yv_X4_needsCare rfl rfl rfl rfl ⟨Nat.le_of_ble_eq_true rfl, Nat.le_of_ble_eq_true rfl⟩ ⟨rfl, rfl⟩ (Nat.le_of_ble_eq_true rfl) ⟨Nat.le_of_ble_eq_true rfl, Nat.le_of_ble_eq_true rfl⟩ ?_
  refine g_if_ne X dX4_colourNewOne_4 (tgt := 23) (by decide) hf (fun c3 hf => ?_) (fun c3 hf => ?_)
  · refine g_aload_n X (i := 0) dX4_colourNewOne_7 rfl rfl ?_
    refine g_get X (q0 := 4) (v := .int (o1.2.1 15)) 0 dX4_colourNewOne_8 gC_X4 rfl rfl (by decide) fl_X4_9 rfl rfl ?_
    refine g_iconst X dX4_colourNewOne_11 (v := 3) (by decide) ?_
    refine g_icmp_ne X dX4_colourNewOne_12 (tgt := 36) (by decide) hf (fun c4 hf => ?_) (fun c4 hf => ?_)
    · refine g_iload_n X (i := 1) dX4_colourNewOne_15 rfl rfl ?_
      refine g_aload_n X (i := 0) dX4_colourNewOne_16 rfl rfl ?_
      refine g_get X (q0 := 4) (v := .int (o1.2.1 18)) 4 dX4_colourNewOne_17 gC_X4 rfl rfl (by decide) fl_X4_49 rfl rfl ?_
      refine g_icmp_lt X dX4_colourNewOne_20 (tgt := 36) (by decide) hf (fun c5 hf => ?_) (fun c5 hf => ?_)
      · exact g_vret X hr dX4_colourNewOne_36 hf
      · refine g_aload_n X (i := 0) dX4_colourNewOne_23 rfl rfl ?_
        refine g_dup X dX4_colourNewOne_24 rfl ?_
        refine g_get X (q0 := 4) (v := .int (o1.2.1 17)) 2 dX4_colourNewOne_25 gC_X4 rfl rfl (by decide) fl_X4_22 rfl rfl ?_
        refine g_iload_n X (i := 1) dX4_colourNewOne_28 rfl rfl ?_
        obtain ⟨o6, h7, hf⟩ := hfb hf
        refine g_Ni X (As := [.int x1]) (rest := [.int (o1.2.1 17), .ref (ad 4)]) (c_X6_bit (wf := (wS ad cI)) h7) dX4_colourNewOne_29 ml_X4_25 yv_X6_bit rfl rfl ⟨Nat.le_of_ble_eq_true rfl, Nat.le_of_ble_eq_true rfl⟩ ⟨rfl, rfl⟩ (Nat.le_of_ble_eq_true rfl) ⟨Nat.le_of_ble_eq_true rfl, Nat.le_of_ble_eq_true rfl⟩ ?_
        refine g_ior X dX4_colourNewOne_32 ?_
        refine g_put X (q0 := 4) 2 dX4_colourNewOne_33 gC_X4 rfl rfl (by decide) fl_X4_22 rfl rfl rfl rfl (Nat.le_of_ble_eq_true rfl) (pwS_17 ad cI _ _) ?_
        exact g_vret X hr dX4_colourNewOne_36 hf
    · exact g_vret X hr dX4_colourNewOne_36 hf
  · refine g_aload_n X (i := 0) dX4_colourNewOne_23 rfl rfl ?_
    refine g_dup X dX4_colourNewOne_24 rfl ?_
    refine g_get X (q0 := 4) (v := .int (o1.2.1 17)) 2 dX4_colourNewOne_25 gC_X4 rfl rfl (by decide) fl_X4_22 rfl rfl ?_
    refine g_iload_n X (i := 1) dX4_colourNewOne_28 rfl rfl ?_
    obtain ⟨o8, h9, hf⟩ := hfb hf
    refine g_Ni X (As := [.int x1]) (rest := [.int (o1.2.1 17), .ref (ad 4)]) (c_X6_bit (wf := (wS ad cI)) h9) dX4_colourNewOne_29 ml_X4_25 yv_X6_bit rfl rfl ⟨Nat.le_of_ble_eq_true rfl, Nat.le_of_ble_eq_true rfl⟩ ⟨rfl, rfl⟩ (Nat.le_of_ble_eq_true rfl) ⟨Nat.le_of_ble_eq_true rfl, Nat.le_of_ble_eq_true rfl⟩ ?_
    refine g_ior X dX4_colourNewOne_32 ?_
    refine g_put X (q0 := 4) 2 dX4_colourNewOne_33 gC_X4 rfl rfl (by decide) fl_X4_22 rfl rfl rfl rfl (Nat.le_of_ble_eq_true rfl) (pwS_17 ad cI _ _) ?_
    exact g_vret X hr dX4_colourNewOne_36 hf
def f_X4_whiteOnes (w : St) : Option (Int32 × St) := some ((w.1 13) &&& (((w.1 16) ||| (w.1 17)) ^^^ (-1)), w)
set_option maxRecDepth 100000 in
set_option maxHeartbeats 4000000 in
theorem c_X4_whiteOnes {l : Launch} {D : va_G} {cI : ClassId × ClassId} {A : Nat → Prop} {ad : Nat → Nat} {w : St} {o : Int32 × St} (hf : f_X4_whiteOnes w = some o) : CTi l D cI A yX4_whiteOnes cX4_whiteOnes 2 (some .int) rm_X4_whiteOnes [.ref (ad 4), .ref (ad 3)] ((wS ad cI) w) o.1 ((wS ad cI) o.2)   := by
  refine CTi.of (by decide +kernel) rfl (Nat.le_of_ble_eq_true rfl) ?_
  intro p e s m args below meth c X hr
  have X : gX p s m args meth c cX4_whiteOnes 2 RX4 D cI := X
  show G _ _ _ _ _ _ _ _ _ _ _ _ _ _ _ _ _ 0 [some (.ref (ad 4)), some (.ref (ad 3))] [] w
  unfold f_X4_whiteOnes at hf
  refine g_aload_n X (i := 1) dX4_whiteOnes_0 rfl rfl ?_
  refine g_get X (q0 := 3) (v := .int (w.1 13)) 0 dX4_whiteOnes_1 gC_X1 rfl rfl (by decide) fl_X4_36 rfl rfl ?_
  refine g_aload_n X (i := 0) dX4_whiteOnes_4 rfl rfl ?_
  refine g_get X (q0 := 4) (v := .int (w.1 16)) 1 dX4_whiteOnes_5 gC_X4 rfl rfl (by decide) fl_X4_33 rfl rfl ?_
  refine g_aload_n X (i := 0) dX4_whiteOnes_8 rfl rfl ?_
  refine g_get X (q0 := 4) (v := .int (w.1 17)) 2 dX4_whiteOnes_9 gC_X4 rfl rfl (by decide) fl_X4_22 rfl rfl ?_
  refine g_ior X dX4_whiteOnes_12 ?_
  refine g_iconst X dX4_whiteOnes_13 (v := (-1)) (by decide) ?_
  refine g_ixor X dX4_whiteOnes_14 ?_
  refine g_iand X dX4_whiteOnes_15 ?_
  exact g_iret X hr dX4_whiteOnes_16 hf
def f_X4_open_L27 : Nat → Int32 → St → Option (St)
  | 0, _, _ => none
  | n + 1, x2, w => (if x2 < 4 then (f_X1_rootAt x2 w).bind fun o2 => (f_X4_shade o2.1 o2.2).bind fun o4 => f_X4_open_L27 n (x2 + 1) o4.2 else some (w))
def f_X4_open_L49 : Nat → Int32 → St → Option (St)
  | 0, _, _ => none
  | n + 1, x2, w => (if x2 < (w.1 23) then (f_X3_at_5 x2 w).bind fun o9 => (f_X4_shade o9.1 o9.2).bind fun o11 => f_X4_open_L49 n (x2 + 1) o11.2 else some (w))
def f_X4_open (w : St) : Option (Int32 × St) := (f_X4_open_L27 BIG 0 (sR (sR (sR (sR w 15 1) 19 ((w.1 19) + 1)) 20 0) 21 0)).bind fun o6 => (f_X4_open_L49 BIG 0 o6).bind fun o13 => some (0, o13)
set_option maxRecDepth 100000 in
set_option maxHeartbeats 4000000 in
theorem gl_X4_open_L27 {p : Program} {l : Launch} {e : Env} {s : State} {m : MethodId} {args : Array Value} {below : List Frame} {meth : Method} {c : Code} {D : va_G} {A : Nat → Prop} {cI : ClassId × ClassId} {ad : Nat → Nat} {Q : State → Prop} {o : St} (X : gX p s m args meth c cX4_open 3 RX4 D cI) (n : Nat) : ∀ {x2 : Int32} {w : St}, f_X4_open_L27 n x2 w = some o → G p l e rm_X4_open s m args below meth c D A 3 Q (wS ad cI) 0 0 47 [some (.ref (ad 4)), some (.ref (ad 3)), none] [] o → G p l e rm_X4_open s m args below meth c D A 3 Q (wS ad cI) 0 0 27 [some (.ref (ad 4)), some (.ref (ad 3)), some (.int x2)] [] w := by
  induction n with
  | zero => intro x2 w hf; cases hf
  | succ n ih =>
    intro x2 w hf k
    rw [f_X4_open_L27] at hf
    refine g_iload_n X (i := 2) dX4_open_27 rfl rfl ?_
    refine g_iconst X dX4_open_28 (v := 4) (by decide) ?_
    refine g_icmp_ge X dX4_open_29 (tgt := 47) (by decide) hf (fun c1 hf => ?_) (fun c1 hf => ?_)
    · refine g_aload_n X (i := 0) dX4_open_32 rfl rfl ?_
      refine g_aload_n X (i := 1) dX4_open_33 rfl rfl ?_
      refine g_iload_n X (i := 2) dX4_open_34 rfl rfl ?_
      obtain ⟨o2, h3, hf⟩ := hfb hf
      refine g_Vi X (q0 := 3) (As := [.int x2]) (rest := [.ref (ad 4)]) (c_X1_rootAt h3) dX4_open_35 ml_X4_61 yv_X1_rootAt rfl rfl rfl rfl ⟨Nat.le_of_ble_eq_true rfl, Nat.le_of_ble_eq_true rfl⟩ ⟨rfl, rfl⟩ (Nat.le_of_ble_eq_true rfl) ⟨Nat.le_of_ble_eq_true rfl, Nat.le_of_ble_eq_true rfl⟩ ?_
      obtain ⟨o4, h5, hf⟩ := hfb hf
      refine g_Vv X (q0 := 4) (As := [.int o2.1]) (rest := []) (c_X4_shade h5) dX4_open_38 ml_X4_64 yv_X4_shade rfl rfl rfl rfl ⟨Nat.le_of_ble_eq_true rfl, Nat.le_of_ble_eq_true rfl⟩ ⟨rfl, rfl⟩ (Nat.le_of_ble_eq_true rfl) ⟨Nat.le_of_ble_eq_true rfl, Nat.le_of_ble_eq_true rfl⟩ ?_
      refine g_iinc X (i := 2) (v := 1) dX4_open_41 rfl (by decide) (by decide) rfl ?_
      refine g_goto X dX4_open_44 (tgt := 27) (by decide) ?_
      exact ih hf k
    · obtain rfl := Option.some.inj hf
      refine g_sub (losub (lo' := [some (.ref (ad 4)), some (.ref (ad 3)), none]) ⟨rfl, rfl, trivial⟩) ?_
      exact k
set_option maxRecDepth 100000 in
set_option maxHeartbeats 4000000 in
theorem gl_X4_open_L49 {p : Program} {l : Launch} {e : Env} {s : State} {m : MethodId} {args : Array Value} {below : List Frame} {meth : Method} {c : Code} {D : va_G} {A : Nat → Prop} {cI : ClassId × ClassId} {ad : Nat → Nat} {Q : State → Prop} {o : St} (X : gX p s m args meth c cX4_open 3 RX4 D cI) (n : Nat) : ∀ {x2 : Int32} {w : St}, f_X4_open_L49 n x2 w = some o → G p l e rm_X4_open s m args below meth c D A 3 Q (wS ad cI) 0 0 78 [none, none, none] [] o → G p l e rm_X4_open s m args below meth c D A 3 Q (wS ad cI) 0 0 49 [some (.ref (ad 4)), some (.ref (ad 3)), some (.int x2)] [] w := by
  induction n with
  | zero => intro x2 w hf; cases hf
  | succ n ih =>
    intro x2 w hf k
    rw [f_X4_open_L49] at hf
    refine g_iload_n X (i := 2) dX4_open_49 rfl rfl ?_
    refine g_aload_n X (i := 1) dX4_open_50 rfl rfl ?_
    refine g_get X (q0 := 3) (v := .ref (ad 5)) 5 dX4_open_51 gC_X1 rfl rfl (by decide) fl_X4_67 rfl rfl ?_
    refine g_get X (q0 := 5) (v := .int (w.1 23)) 1 dX4_open_54 gC_X3 rfl rfl (by decide) fl_X4_70 rfl rfl ?_
    refine g_icmp_ge X dX4_open_57 (tgt := 78) (by decide) hf (fun c8 hf => ?_) (fun c8 hf => ?_)
    · refine g_aload_n X (i := 0) dX4_open_60 rfl rfl ?_
      refine g_aload_n X (i := 1) dX4_open_61 rfl rfl ?_
      refine g_get X (q0 := 3) (v := .ref (ad 5)) 5 dX4_open_62 gC_X1 rfl rfl (by decide) fl_X4_67 rfl rfl ?_
      refine g_iload_n X (i := 2) dX4_open_65 rfl rfl ?_
      obtain ⟨o9, h10, hf⟩ := hfb hf
      refine g_Vi X (q0 := 5) (As := [.int x2]) (rest := [.ref (ad 4)]) (c_X3_at_5 h10) dX4_open_66 ml_X4_73 yv_X3_at rfl rfl rfl rfl ⟨Nat.le_of_ble_eq_true rfl, Nat.le_of_ble_eq_true rfl⟩ ⟨rfl, rfl⟩ (Nat.le_of_ble_eq_true rfl) ⟨Nat.le_of_ble_eq_true rfl, Nat.le_of_ble_eq_true rfl⟩ ?_
      obtain ⟨o11, h12, hf⟩ := hfb hf
      refine g_Vv X (q0 := 4) (As := [.int o9.1]) (rest := []) (c_X4_shade h12) dX4_open_69 ml_X4_64 yv_X4_shade rfl rfl rfl rfl ⟨Nat.le_of_ble_eq_true rfl, Nat.le_of_ble_eq_true rfl⟩ ⟨rfl, rfl⟩ (Nat.le_of_ble_eq_true rfl) ⟨Nat.le_of_ble_eq_true rfl, Nat.le_of_ble_eq_true rfl⟩ ?_
      refine g_iinc X (i := 2) (v := 1) dX4_open_72 rfl (by decide) (by decide) rfl ?_
      refine g_goto X dX4_open_75 (tgt := 49) (by decide) ?_
      exact ih hf k
    · obtain rfl := Option.some.inj hf
      refine g_sub (losub (lo' := [none, none, none]) trivial) ?_
      exact k
set_option maxRecDepth 100000 in
set_option maxHeartbeats 4000000 in
theorem c_X4_open {l : Launch} {D : va_G} {cI : ClassId × ClassId} {A : Nat → Prop} {ad : Nat → Nat} {w : St} {o : Int32 × St} (hf : f_X4_open w = some o) : CTv l D cI A yX4_open cX4_open 3 (none) rm_X4_open [.ref (ad 4), .ref (ad 3)] ((wS ad cI) w) ((wS ad cI) o.2)   := by
  refine CTv.of (by decide +kernel) rfl (Nat.le_of_ble_eq_true rfl) ?_
  intro p e s m args below meth c X hr
  have X : gX p s m args meth c cX4_open 3 RX4 D cI := X
  show G _ _ _ _ _ _ _ _ _ _ _ _ _ _ _ _ _ 0 [some (.ref (ad 4)), some (.ref (ad 3)), none] [] w
  unfold f_X4_open at hf
  refine g_aload_n X (i := 0) dX4_open_0 rfl rfl ?_
  refine g_iconst X dX4_open_1 (v := 1) (by decide) ?_
  refine g_put X (q0 := 4) 0 dX4_open_2 gC_X4 rfl rfl (by decide) fl_X4_9 rfl rfl rfl rfl (Nat.le_of_ble_eq_true rfl) (pwS_15 ad cI _ _) ?_
  refine g_aload_n X (i := 0) dX4_open_5 rfl rfl ?_
  refine g_dup X dX4_open_6 rfl ?_
  refine g_get X (q0 := 4) (v := .int (w.1 19)) 5 dX4_open_7 gC_X4 rfl rfl (by decide) fl_X4_52 rfl rfl ?_
  refine g_iconst X dX4_open_10 (v := 1) (by decide) ?_
  refine g_iadd X dX4_open_11 ?_
  refine g_put X (q0 := 4) 5 dX4_open_12 gC_X4 rfl rfl (by decide) fl_X4_52 rfl rfl rfl rfl (Nat.le_of_ble_eq_true rfl) (pwS_19 ad cI _ _) ?_
  refine g_aload_n X (i := 0) dX4_open_15 rfl rfl ?_
  refine g_iconst X dX4_open_16 (v := 0) (by decide) ?_
  refine g_put X (q0 := 4) 6 dX4_open_17 gC_X4 rfl rfl (by decide) fl_X4_55 rfl rfl rfl rfl (Nat.le_of_ble_eq_true rfl) (pwS_20 ad cI _ _) ?_
  refine g_aload_n X (i := 0) dX4_open_20 rfl rfl ?_
  refine g_iconst X dX4_open_21 (v := 0) (by decide) ?_
  refine g_put X (q0 := 4) 7 dX4_open_22 gC_X4 rfl rfl (by decide) fl_X4_58 rfl rfl rfl rfl (Nat.le_of_ble_eq_true rfl) (pwS_21 ad cI _ _) ?_
  refine g_iconst X dX4_open_25 (v := 0) (by decide) ?_
  refine g_istore_n X (i := 2) dX4_open_26 rfl (by decide) rfl ?_
  obtain ⟨o6, h7, hf⟩ := hfb hf
  refine gl_X4_open_L27 X BIG h7 ?_
  refine g_iconst X dX4_open_47 (v := 0) (by decide) ?_
  refine g_istore_n X (i := 2) dX4_open_48 rfl (by decide) rfl ?_
  obtain ⟨o13, h14, hf⟩ := hfb hf
  refine gl_X4_open_L49 X BIG h14 ?_
  exact g_vret X hr dX4_open_78 hf
def f_X4_findToFinish (w : St) : Option (Int32 × St) := (f_X4_whiteOnes w).bind fun o1 => (f_X6_lowestOf (o1.1 &&& (o1.2.1 14)) 0 o1.2).bind fun o3 => (if o3.1 = (-1) then (f_X4_whiteOnes o3.2).bind fun o6 => (f_X1_emptyHoldersOf o6.1 o6.2).bind fun o8 => some (0, sR (sR o8.2 15 3) 18 0) else (f_X6_bit o3.1 o3.2).bind fun o10 => (f_X3_append_5 o3.1 (sR o10.2 14 ((o3.2.1 14) &&& (o10.1 ^^^ (-1))))).bind fun o12 => (f_X4_shade o3.1 o12.2).bind fun o14 => some (0, o14.2))
set_option maxRecDepth 100000 in
set_option maxHeartbeats 4000000 in
theorem c_X4_findToFinish {l : Launch} {D : va_G} {cI : ClassId × ClassId} {A : Nat → Prop} {ad : Nat → Nat} {w : St} {o : Int32 × St} (hf : f_X4_findToFinish w = some o) : CTv l D cI A yX4_findToFinish cX4_findToFinish 3 (none) rm_X4_findToFinish [.ref (ad 4), .ref (ad 3)] ((wS ad cI) w) ((wS ad cI) o.2)   := by
  refine CTv.of (by decide +kernel) rfl (Nat.le_of_ble_eq_true rfl) ?_
  intro p e s m args below meth c X hr
  have X : gX p s m args meth c cX4_findToFinish 3 RX4 D cI := X
  show G _ _ _ _ _ _ _ _ _ _ _ _ _ _ _ _ _ 0 [some (.ref (ad 4)), some (.ref (ad 3)), none] [] w
  unfold f_X4_findToFinish at hf
  refine g_aload_n X (i := 0) dX4_findToFinish_0 rfl rfl ?_
  refine g_aload_n X (i := 1) dX4_findToFinish_1 rfl rfl ?_
  obtain ⟨o1, h2, hf⟩ := hfb hf
  refine g_Vi X (q0 := 4) (As := [.ref (ad 3)]) (rest := []) (c_X4_whiteOnes h2) dX4_findToFinish_2 ml_X4_83 yv_X4_whiteOnes rfl rfl rfl rfl ⟨Nat.le_of_ble_eq_true rfl, Nat.le_of_ble_eq_true rfl⟩ ⟨rfl, rfl⟩ (Nat.le_of_ble_eq_true rfl) ⟨Nat.le_of_ble_eq_true rfl, Nat.le_of_ble_eq_true rfl⟩ ?_
  refine g_aload_n X (i := 1) dX4_findToFinish_5 rfl rfl ?_
  refine g_get X (q0 := 3) (v := .int (o1.2.1 14)) 1 dX4_findToFinish_6 gC_X1 rfl rfl (by decide) fl_X4_101 rfl rfl ?_
  refine g_iand X dX4_findToFinish_9 ?_
  refine g_iconst X dX4_findToFinish_10 (v := 0) (by decide) ?_
  obtain ⟨o3, h4, hf⟩ := hfb hf
  refine g_Ni X (As := [.int (o1.1 &&& (o1.2.1 14)), .int 0]) (rest := []) (c_X6_lowestOf (wf := (wS ad cI)) h4) dX4_findToFinish_11 ml_X4_104 yv_X6_lowestOf rfl rfl ⟨Nat.le_of_ble_eq_true rfl, Nat.le_of_ble_eq_true rfl⟩ ⟨rfl, rfl⟩ (Nat.le_of_ble_eq_true rfl) ⟨Nat.le_of_ble_eq_true rfl, Nat.le_of_ble_eq_true rfl⟩ ?_
  refine g_istore_n X (i := 2) dX4_findToFinish_14 rfl (by decide) rfl ?_
  refine g_iload_n X (i := 2) dX4_findToFinish_15 rfl rfl ?_
  refine g_iconst X dX4_findToFinish_16 (v := (-1)) (by decide) ?_
  refine g_icmp_ne X dX4_findToFinish_17 (tgt := 42) (by decide) hf (fun c5 hf => ?_) (fun c5 hf => ?_)
  · refine g_aload_n X (i := 1) dX4_findToFinish_20 rfl rfl ?_
    refine g_aload_n X (i := 0) dX4_findToFinish_21 rfl rfl ?_
    refine g_aload_n X (i := 1) dX4_findToFinish_22 rfl rfl ?_
    obtain ⟨o6, h7, hf⟩ := hfb hf
    refine g_Vi X (q0 := 4) (As := [.ref (ad 3)]) (rest := [.ref (ad 3)]) (c_X4_whiteOnes h7) dX4_findToFinish_23 ml_X4_83 yv_X4_whiteOnes rfl rfl rfl rfl ⟨Nat.le_of_ble_eq_true rfl, Nat.le_of_ble_eq_true rfl⟩ ⟨rfl, rfl⟩ (Nat.le_of_ble_eq_true rfl) ⟨Nat.le_of_ble_eq_true rfl, Nat.le_of_ble_eq_true rfl⟩ ?_
    obtain ⟨o8, h9, hf⟩ := hfb hf
    refine g_Vv X (q0 := 3) (As := [.int o6.1]) (rest := []) (c_X1_emptyHoldersOf h9) dX4_findToFinish_26 ml_X4_87 yv_X1_emptyHoldersOf rfl rfl rfl rfl ⟨Nat.le_of_ble_eq_true rfl, Nat.le_of_ble_eq_true rfl⟩ ⟨rfl, rfl⟩ (Nat.le_of_ble_eq_true rfl) ⟨Nat.le_of_ble_eq_true rfl, Nat.le_of_ble_eq_true rfl⟩ ?_
    refine g_aload_n X (i := 0) dX4_findToFinish_29 rfl rfl ?_
    refine g_iconst X dX4_findToFinish_30 (v := 3) (by decide) ?_
    refine g_put X (q0 := 4) 0 dX4_findToFinish_31 gC_X4 rfl rfl (by decide) fl_X4_9 rfl rfl rfl rfl (Nat.le_of_ble_eq_true rfl) (pwS_15 ad cI _ _) ?_
    refine g_aload_n X (i := 0) dX4_findToFinish_34 rfl rfl ?_
    refine g_iconst X dX4_findToFinish_35 (v := 0) (by decide) ?_
    refine g_put X (q0 := 4) 4 dX4_findToFinish_36 gC_X4 rfl rfl (by decide) fl_X4_49 rfl rfl rfl rfl (Nat.le_of_ble_eq_true rfl) (pwS_18 ad cI _ _) ?_
    refine g_goto X dX4_findToFinish_39 (tgt := 70) (by decide) ?_
    exact g_vret X hr dX4_findToFinish_70 hf
  · refine g_aload_n X (i := 1) dX4_findToFinish_42 rfl rfl ?_
    refine g_dup X dX4_findToFinish_43 rfl ?_
    refine g_get X (q0 := 3) (v := .int (o3.2.1 14)) 1 dX4_findToFinish_44 gC_X1 rfl rfl (by decide) fl_X4_101 rfl rfl ?_
    refine g_iload_n X (i := 2) dX4_findToFinish_47 rfl rfl ?_
    obtain ⟨o10, h11, hf⟩ := hfb hf
    refine g_Ni X (As := [.int o3.1]) (rest := [.int (o3.2.1 14), .ref (ad 3)]) (c_X6_bit (wf := (wS ad cI)) h11) dX4_findToFinish_48 ml_X4_25 yv_X6_bit rfl rfl ⟨Nat.le_of_ble_eq_true rfl, Nat.le_of_ble_eq_true rfl⟩ ⟨rfl, rfl⟩ (Nat.le_of_ble_eq_true rfl) ⟨Nat.le_of_ble_eq_true rfl, Nat.le_of_ble_eq_true rfl⟩ ?_
    refine g_iconst X dX4_findToFinish_51 (v := (-1)) (by decide) ?_
    refine g_ixor X dX4_findToFinish_52 ?_
    refine g_iand X dX4_findToFinish_53 ?_
    refine g_put X (q0 := 3) 1 dX4_findToFinish_54 gC_X1 rfl rfl (by decide) fl_X4_101 rfl rfl rfl rfl (Nat.le_of_ble_eq_true rfl) (pwS_14 ad cI _ _) ?_
    refine g_aload_n X (i := 1) dX4_findToFinish_57 rfl rfl ?_
    refine g_get X (q0 := 3) (v := .ref (ad 5)) 5 dX4_findToFinish_58 gC_X1 rfl rfl (by decide) fl_X4_67 rfl rfl ?_
    refine g_iload_n X (i := 2) dX4_findToFinish_61 rfl rfl ?_
    obtain ⟨o12, h13, hf⟩ := hfb hf
    refine g_Vv X (q0 := 5) (As := [.int o3.1]) (rest := []) (c_X3_append_5 h13) dX4_findToFinish_62 ml_X4_41 yv_X3_append rfl rfl rfl rfl ⟨Nat.le_of_ble_eq_true rfl, Nat.le_of_ble_eq_true rfl⟩ ⟨rfl, rfl⟩ (Nat.le_of_ble_eq_true rfl) ⟨Nat.le_of_ble_eq_true rfl, Nat.le_of_ble_eq_true rfl⟩ ?_
    refine g_aload_n X (i := 0) dX4_findToFinish_65 rfl rfl ?_
    refine g_iload_n X (i := 2) dX4_findToFinish_66 rfl rfl ?_
    obtain ⟨o14, h15, hf⟩ := hfb hf
    refine g_Vv X (q0 := 4) (As := [.int o3.1]) (rest := []) (c_X4_shade h15) dX4_findToFinish_67 ml_X4_64 yv_X4_shade rfl rfl rfl rfl ⟨Nat.le_of_ble_eq_true rfl, Nat.le_of_ble_eq_true rfl⟩ ⟨rfl, rfl⟩ (Nat.le_of_ble_eq_true rfl) ⟨Nat.le_of_ble_eq_true rfl, Nat.le_of_ble_eq_true rfl⟩ ?_
    exact g_vret X hr dX4_findToFinish_70 hf
def f_X4_markFirst_L10 : Nat → Int32 → Int32 → St → Option (St)
  | 0, _, _, _ => none
  | n + 1, x2, x3, w => (if x3 < 3 then (f_X1_fieldOf x2 x3 w).bind fun o4 => (f_X4_shade o4.1 o4.2).bind fun o6 => f_X4_markFirst_L10 n x2 (x3 + 1) o6.2 else some (w))
def f_X4_markFirst (w : St) : Option (Int32 × St) := (f_X3_takeFirst_6 w).bind fun o1 => (f_X4_markFirst_L10 BIG o1.1 0 o1.2).bind fun o8 => (f_X6_bit o1.1 o8).bind fun o10 => (f_X6_bit o1.1 (sR o10.2 16 ((o8.1 16) &&& (o10.1 ^^^ (-1))))).bind fun o12 => some (0, sR o12.2 17 ((o10.2.1 17) ||| o12.1))
set_option maxRecDepth 100000 in
set_option maxHeartbeats 4000000 in
theorem gl_X4_markFirst_L10 {p : Program} {l : Launch} {e : Env} {s : State} {m : MethodId} {args : Array Value} {below : List Frame} {meth : Method} {c : Code} {D : va_G} {A : Nat → Prop} {cI : ClassId × ClassId} {ad : Nat → Nat} {Q : State → Prop} {o : St} (X : gX p s m args meth c cX4_markFirst 4 RX4 D cI) (n : Nat) : ∀ {x2 x3 : Int32} {w : St}, f_X4_markFirst_L10 n x2 x3 w = some o → G p l e rm_X4_markFirst s m args below meth c D A 4 Q (wS ad cI) 0 0 31 [some (.ref (ad 4)), none, some (.int x2), none] [] o → G p l e rm_X4_markFirst s m args below meth c D A 4 Q (wS ad cI) 0 0 10 [some (.ref (ad 4)), some (.ref (ad 3)), some (.int x2), some (.int x3)] [] w := by
  induction n with
  | zero => intro x2 x3 w hf; cases hf
  | succ n ih =>
    intro x2 x3 w hf k
    rw [f_X4_markFirst_L10] at hf
    refine g_iload_n X (i := 3) dX4_markFirst_10 rfl rfl ?_
    refine g_iconst X dX4_markFirst_11 (v := 3) (by decide) ?_
    refine g_icmp_ge X dX4_markFirst_12 (tgt := 31) (by decide) hf (fun c3 hf => ?_) (fun c3 hf => ?_)
    · refine g_aload_n X (i := 0) dX4_markFirst_15 rfl rfl ?_
      refine g_aload_n X (i := 1) dX4_markFirst_16 rfl rfl ?_
      refine g_iload_n X (i := 2) dX4_markFirst_17 rfl rfl ?_
      refine g_iload_n X (i := 3) dX4_markFirst_18 rfl rfl ?_
      obtain ⟨o4, h5, hf⟩ := hfb hf
      refine g_Vi X (q0 := 3) (As := [.int x2, .int x3]) (rest := [.ref (ad 4)]) (c_X1_fieldOf h5) dX4_markFirst_19 ml_X4_97 yv_X1_fieldOf rfl rfl rfl rfl ⟨Nat.le_of_ble_eq_true rfl, Nat.le_of_ble_eq_true rfl⟩ ⟨rfl, rfl⟩ (Nat.le_of_ble_eq_true rfl) ⟨Nat.le_of_ble_eq_true rfl, Nat.le_of_ble_eq_true rfl⟩ ?_
      obtain ⟨o6, h7, hf⟩ := hfb hf
      refine g_Vv X (q0 := 4) (As := [.int o4.1]) (rest := []) (c_X4_shade h7) dX4_markFirst_22 ml_X4_64 yv_X4_shade rfl rfl rfl rfl ⟨Nat.le_of_ble_eq_true rfl, Nat.le_of_ble_eq_true rfl⟩ ⟨rfl, rfl⟩ (Nat.le_of_ble_eq_true rfl) ⟨Nat.le_of_ble_eq_true rfl, Nat.le_of_ble_eq_true rfl⟩ ?_
      refine g_iinc X (i := 3) (v := 1) dX4_markFirst_25 rfl (by decide) (by decide) rfl ?_
      refine g_goto X dX4_markFirst_28 (tgt := 10) (by decide) ?_
      exact ih hf k
    · obtain rfl := Option.some.inj hf
      refine g_sub (losub (lo' := [some (.ref (ad 4)), none, some (.int x2), none]) ⟨rfl, rfl, trivial⟩) ?_
      exact k
set_option maxRecDepth 100000 in
set_option maxHeartbeats 4000000 in
theorem c_X4_markFirst {l : Launch} {D : va_G} {cI : ClassId × ClassId} {A : Nat → Prop} {ad : Nat → Nat} {w : St} {o : Int32 × St} (hf : f_X4_markFirst w = some o) : CTv l D cI A yX4_markFirst cX4_markFirst 4 (none) rm_X4_markFirst [.ref (ad 4), .ref (ad 3)] ((wS ad cI) w) ((wS ad cI) o.2)   := by
  refine CTv.of (by decide +kernel) rfl (Nat.le_of_ble_eq_true rfl) ?_
  intro p e s m args below meth c X hr
  have X : gX p s m args meth c cX4_markFirst 4 RX4 D cI := X
  show G _ _ _ _ _ _ _ _ _ _ _ _ _ _ _ _ _ 0 [some (.ref (ad 4)), some (.ref (ad 3)), none, none] [] w
  unfold f_X4_markFirst at hf
  refine g_aload_n X (i := 0) dX4_markFirst_0 rfl rfl ?_
  refine g_get X (q0 := 4) (v := .ref (ad 6)) 3 dX4_markFirst_1 gC_X4 rfl rfl (by decide) fl_X4_18 rfl rfl ?_
  obtain ⟨o1, h2, hf⟩ := hfb hf
  refine g_Vi X (q0 := 6) (As := []) (rest := []) (c_X3_takeFirst_6 h2) dX4_markFirst_4 ml_X4_93 yv_X3_takeFirst rfl rfl rfl rfl ⟨Nat.le_of_ble_eq_true rfl, Nat.le_of_ble_eq_true rfl⟩ ⟨rfl, rfl⟩ (Nat.le_of_ble_eq_true rfl) ⟨Nat.le_of_ble_eq_true rfl, Nat.le_of_ble_eq_true rfl⟩ ?_
  refine g_istore_n X (i := 2) dX4_markFirst_7 rfl (by decide) rfl ?_
  refine g_iconst X dX4_markFirst_8 (v := 0) (by decide) ?_
  refine g_istore_n X (i := 3) dX4_markFirst_9 rfl (by decide) rfl ?_
  obtain ⟨o8, h9, hf⟩ := hfb hf
  refine gl_X4_markFirst_L10 X BIG h9 ?_
  refine g_aload_n X (i := 0) dX4_markFirst_31 rfl rfl ?_
  refine g_dup X dX4_markFirst_32 rfl ?_
  refine g_get X (q0 := 4) (v := .int (o8.1 16)) 1 dX4_markFirst_33 gC_X4 rfl rfl (by decide) fl_X4_33 rfl rfl ?_
  refine g_iload_n X (i := 2) dX4_markFirst_36 rfl rfl ?_
  obtain ⟨o10, h11, hf⟩ := hfb hf
  refine g_Ni X (As := [.int o1.1]) (rest := [.int (o8.1 16), .ref (ad 4)]) (c_X6_bit (wf := (wS ad cI)) h11) dX4_markFirst_37 ml_X4_25 yv_X6_bit rfl rfl ⟨Nat.le_of_ble_eq_true rfl, Nat.le_of_ble_eq_true rfl⟩ ⟨rfl, rfl⟩ (Nat.le_of_ble_eq_true rfl) ⟨Nat.le_of_ble_eq_true rfl, Nat.le_of_ble_eq_true rfl⟩ ?_
  refine g_iconst X dX4_markFirst_40 (v := (-1)) (by decide) ?_
  refine g_ixor X dX4_markFirst_41 ?_
  refine g_iand X dX4_markFirst_42 ?_
  refine g_put X (q0 := 4) 1 dX4_markFirst_43 gC_X4 rfl rfl (by decide) fl_X4_33 rfl rfl rfl rfl (Nat.le_of_ble_eq_true rfl) (pwS_16 ad cI _ _) ?_
  refine g_aload_n X (i := 0) dX4_markFirst_46 rfl rfl ?_
  refine g_dup X dX4_markFirst_47 rfl ?_
  refine g_get X (q0 := 4) (v := .int (o10.2.1 17)) 2 dX4_markFirst_48 gC_X4 rfl rfl (by decide) fl_X4_22 rfl rfl ?_
  refine g_iload_n X (i := 2) dX4_markFirst_51 rfl rfl ?_
  obtain ⟨o12, h13, hf⟩ := hfb hf
  refine g_Ni X (As := [.int o1.1]) (rest := [.int (o10.2.1 17), .ref (ad 4)]) (c_X6_bit (wf := (wS ad cI)) h13) dX4_markFirst_52 ml_X4_25 yv_X6_bit rfl rfl ⟨Nat.le_of_ble_eq_true rfl, Nat.le_of_ble_eq_true rfl⟩ ⟨rfl, rfl⟩ (Nat.le_of_ble_eq_true rfl) ⟨Nat.le_of_ble_eq_true rfl, Nat.le_of_ble_eq_true rfl⟩ ?_
  refine g_ior X dX4_markFirst_55 ?_
  refine g_put X (q0 := 4) 2 dX4_markFirst_56 gC_X4 rfl rfl (by decide) fl_X4_22 rfl rfl rfl rfl (Nat.le_of_ble_eq_true rfl) (pwS_17 ad cI _ _) ?_
  exact g_vret X hr dX4_markFirst_59 hf
def f_X4_sweep (w : St) : Option (Int32 × St) := (f_X6_lowestOf (w.1 13) (w.1 18) w).bind fun o1 => (if o1.1 = (-1) then some (0, sR o1.2 15 0) else (f_X6_bit o1.1 o1.2).bind fun o4 => (f_X4_whiteOnes o4.2).bind fun o6 => (if (o6.1 &&& o4.1) = 0 then some (0, sR (sR o6.2 17 ((o6.2.1 17) &&& (o4.1 ^^^ (-1)))) 18 (o1.1 + 1)) else (f_X1_letGo o1.1 o6.2).bind fun o9 => some (0, sR (sR (sR o9.2 21 ((o9.2.1 21) ||| o4.1)) 22 ((o9.2.1 22) + 1)) 18 (o1.1 + 1))))
set_option maxRecDepth 100000 in
set_option maxHeartbeats 4000000 in
theorem c_X4_sweep {l : Launch} {D : va_G} {cI : ClassId × ClassId} {A : Nat → Prop} {ad : Nat → Nat} {w : St} {o : Int32 × St} (hf : f_X4_sweep w = some o) : CTv l D cI A yX4_sweep cX4_sweep 4 (none) rm_X4_sweep [.ref (ad 4), .ref (ad 3)] ((wS ad cI) w) ((wS ad cI) o.2)   := by
  refine CTv.of (by decide +kernel) rfl (Nat.le_of_ble_eq_true rfl) ?_
  intro p e s m args below meth c X hr
  have X : gX p s m args meth c cX4_sweep 4 RX4 D cI := X
  show G _ _ _ _ _ _ _ _ _ _ _ _ _ _ _ _ _ 0 [some (.ref (ad 4)), some (.ref (ad 3)), none, none] [] w
  unfold f_X4_sweep at hf
  refine g_aload_n X (i := 1) dX4_sweep_0 rfl rfl ?_
  refine g_get X (q0 := 3) (v := .int (w.1 13)) 0 dX4_sweep_1 gC_X1 rfl rfl (by decide) fl_X4_36 rfl rfl ?_
  refine g_aload_n X (i := 0) dX4_sweep_4 rfl rfl ?_
  refine g_get X (q0 := 4) (v := .int (w.1 18)) 4 dX4_sweep_5 gC_X4 rfl rfl (by decide) fl_X4_49 rfl rfl ?_
  obtain ⟨o1, h2, hf⟩ := hfb hf
  refine g_Ni X (As := [.int (w.1 13), .int (w.1 18)]) (rest := []) (c_X6_lowestOf (wf := (wS ad cI)) h2) dX4_sweep_8 ml_X4_104 yv_X6_lowestOf rfl rfl ⟨Nat.le_of_ble_eq_true rfl, Nat.le_of_ble_eq_true rfl⟩ ⟨rfl, rfl⟩ (Nat.le_of_ble_eq_true rfl) ⟨Nat.le_of_ble_eq_true rfl, Nat.le_of_ble_eq_true rfl⟩ ?_
  refine g_istore_n X (i := 2) dX4_sweep_11 rfl (by decide) rfl ?_
  refine g_iload_n X (i := 2) dX4_sweep_12 rfl rfl ?_
  refine g_iconst X dX4_sweep_13 (v := (-1)) (by decide) ?_
  refine g_icmp_ne X dX4_sweep_14 (tgt := 23) (by decide) hf (fun c3 hf => ?_) (fun c3 hf => ?_)
  · refine g_aload_n X (i := 0) dX4_sweep_17 rfl rfl ?_
    refine g_iconst X dX4_sweep_18 (v := 0) (by decide) ?_
    refine g_put X (q0 := 4) 0 dX4_sweep_19 gC_X4 rfl rfl (by decide) fl_X4_9 rfl rfl rfl rfl (Nat.le_of_ble_eq_true rfl) (pwS_15 ad cI _ _) ?_
    exact g_vret X hr dX4_sweep_22 hf
  · refine g_iload_n X (i := 2) dX4_sweep_23 rfl rfl ?_
    obtain ⟨o4, h5, hf⟩ := hfb hf
    refine g_Ni X (As := [.int o1.1]) (rest := []) (c_X6_bit (wf := (wS ad cI)) h5) dX4_sweep_24 ml_X4_25 yv_X6_bit rfl rfl ⟨Nat.le_of_ble_eq_true rfl, Nat.le_of_ble_eq_true rfl⟩ ⟨rfl, rfl⟩ (Nat.le_of_ble_eq_true rfl) ⟨Nat.le_of_ble_eq_true rfl, Nat.le_of_ble_eq_true rfl⟩ ?_
    refine g_istore_n X (i := 3) dX4_sweep_27 rfl (by decide) rfl ?_
    refine g_aload_n X (i := 0) dX4_sweep_28 rfl rfl ?_
    refine g_aload_n X (i := 1) dX4_sweep_29 rfl rfl ?_
    obtain ⟨o6, h7, hf⟩ := hfb hf
    refine g_Vi X (q0 := 4) (As := [.ref (ad 3)]) (rest := []) (c_X4_whiteOnes h7) dX4_sweep_30 ml_X4_83 yv_X4_whiteOnes rfl rfl rfl rfl ⟨Nat.le_of_ble_eq_true rfl, Nat.le_of_ble_eq_true rfl⟩ ⟨rfl, rfl⟩ (Nat.le_of_ble_eq_true rfl) ⟨Nat.le_of_ble_eq_true rfl, Nat.le_of_ble_eq_true rfl⟩ ?_
    refine g_iload_n X (i := 3) dX4_sweep_33 rfl rfl ?_
    refine g_iand X dX4_sweep_34 ?_
    refine g_if_eq X dX4_sweep_35 (tgt := 66) (by decide) hf (fun c8 hf => ?_) (fun c8 hf => ?_)
    · refine g_aload_n X (i := 0) dX4_sweep_66 rfl rfl ?_
      refine g_dup X dX4_sweep_67 rfl ?_
      refine g_get X (q0 := 4) (v := .int (o6.2.1 17)) 2 dX4_sweep_68 gC_X4 rfl rfl (by decide) fl_X4_22 rfl rfl ?_
      refine g_iload_n X (i := 3) dX4_sweep_71 rfl rfl ?_
      refine g_iconst X dX4_sweep_72 (v := (-1)) (by decide) ?_
      refine g_ixor X dX4_sweep_73 ?_
      refine g_iand X dX4_sweep_74 ?_
      refine g_put X (q0 := 4) 2 dX4_sweep_75 gC_X4 rfl rfl (by decide) fl_X4_22 rfl rfl rfl rfl (Nat.le_of_ble_eq_true rfl) (pwS_17 ad cI _ _) ?_
      refine g_aload_n X (i := 0) dX4_sweep_78 rfl rfl ?_
      refine g_iload_n X (i := 2) dX4_sweep_79 rfl rfl ?_
      refine g_iconst X dX4_sweep_80 (v := 1) (by decide) ?_
      refine g_iadd X dX4_sweep_81 ?_
      refine g_put X (q0 := 4) 4 dX4_sweep_82 gC_X4 rfl rfl (by decide) fl_X4_49 rfl rfl rfl rfl (Nat.le_of_ble_eq_true rfl) (pwS_18 ad cI _ _) ?_
      exact g_vret X hr dX4_sweep_85 hf
    · refine g_aload_n X (i := 1) dX4_sweep_38 rfl rfl ?_
      refine g_iload_n X (i := 2) dX4_sweep_39 rfl rfl ?_
      obtain ⟨o9, h10, hf⟩ := hfb hf
      refine g_Vv X (q0 := 3) (As := [.int o1.1]) (rest := []) (c_X1_letGo h10) dX4_sweep_40 ml_X4_107 yv_X1_letGo rfl rfl rfl rfl ⟨Nat.le_of_ble_eq_true rfl, Nat.le_of_ble_eq_true rfl⟩ ⟨rfl, rfl⟩ (Nat.le_of_ble_eq_true rfl) ⟨Nat.le_of_ble_eq_true rfl, Nat.le_of_ble_eq_true rfl⟩ ?_
      refine g_aload_n X (i := 0) dX4_sweep_43 rfl rfl ?_
      refine g_dup X dX4_sweep_44 rfl ?_
      refine g_get X (q0 := 4) (v := .int (o9.2.1 21)) 7 dX4_sweep_45 gC_X4 rfl rfl (by decide) fl_X4_58 rfl rfl ?_
      refine g_iload_n X (i := 3) dX4_sweep_48 rfl rfl ?_
      refine g_ior X dX4_sweep_49 ?_
      refine g_put X (q0 := 4) 7 dX4_sweep_50 gC_X4 rfl rfl (by decide) fl_X4_58 rfl rfl rfl rfl (Nat.le_of_ble_eq_true rfl) (pwS_21 ad cI _ _) ?_
      refine g_aload_n X (i := 0) dX4_sweep_53 rfl rfl ?_
      refine g_dup X dX4_sweep_54 rfl ?_
      refine g_get X (q0 := 4) (v := .int (o9.2.1 22)) 8 dX4_sweep_55 gC_X4 rfl rfl (by decide) fl_X4_110 rfl rfl ?_
      refine g_iconst X dX4_sweep_58 (v := 1) (by decide) ?_
      refine g_iadd X dX4_sweep_59 ?_
      refine g_put X (q0 := 4) 8 dX4_sweep_60 gC_X4 rfl rfl (by decide) fl_X4_110 rfl rfl rfl rfl (Nat.le_of_ble_eq_true rfl) (pwS_22 ad cI _ _) ?_
      refine g_goto X dX4_sweep_63 (tgt := 78) (by decide) ?_
      refine g_aload_n X (i := 0) dX4_sweep_78 rfl rfl ?_
      refine g_iload_n X (i := 2) dX4_sweep_79 rfl rfl ?_
      refine g_iconst X dX4_sweep_80 (v := 1) (by decide) ?_
      refine g_iadd X dX4_sweep_81 ?_
      refine g_put X (q0 := 4) 4 dX4_sweep_82 gC_X4 rfl rfl (by decide) fl_X4_49 rfl rfl rfl rfl (Nat.le_of_ble_eq_true rfl) (pwS_18 ad cI _ _) ?_
      exact g_vret X hr dX4_sweep_85 hf
def f_X4_advance (w : St) : Option (Int32 × St) := (if (w.1 15) = 3 then (f_X4_sweep (sR w 20 ((w.1 20) + 1))).bind fun o2 => some (0, o2.2) else (if (0 : Int32) < (w.1 24) then (f_X4_markFirst (sR w 20 ((w.1 20) + 1))).bind fun o5 => some (0, o5.2) else (if (w.1 15) = 1 then (f_X4_whiteOnes (sR w 20 ((w.1 20) + 1))).bind fun o8 => (f_X1_emptyHoldersOf o8.1 o8.2).bind fun o10 => some (0, sR o10.2 15 2) else (f_X4_findToFinish (sR w 20 ((w.1 20) + 1))).bind fun o12 => some (0, o12.2))))
set_option maxRecDepth 100000 in
set_option maxHeartbeats 4000000 in
theorem c_X4_advance {l : Launch} {D : va_G} {cI : ClassId × ClassId} {A : Nat → Prop} {ad : Nat → Nat} {w : St} {o : Int32 × St} (hf : f_X4_advance w = some o) : CTv l D cI A yX4_advance cX4_advance 2 (none) rm_X4_advance [.ref (ad 4), .ref (ad 3)] ((wS ad cI) w) ((wS ad cI) o.2)   := by
  refine CTv.of (by decide +kernel) rfl (Nat.le_of_ble_eq_true rfl) ?_
  intro p e s m args below meth c X hr
  have X : gX p s m args meth c cX4_advance 2 RX4 D cI := X
  show G _ _ _ _ _ _ _ _ _ _ _ _ _ _ _ _ _ 0 [some (.ref (ad 4)), some (.ref (ad 3))] [] w
  unfold f_X4_advance at hf
  refine g_aload_n X (i := 0) dX4_advance_0 rfl rfl ?_
  refine g_dup X dX4_advance_1 rfl ?_
  refine g_get X (q0 := 4) (v := .int (w.1 20)) 6 dX4_advance_2 gC_X4 rfl rfl (by decide) fl_X4_55 rfl rfl ?_
  refine g_iconst X dX4_advance_5 (v := 1) (by decide) ?_
  refine g_iadd X dX4_advance_6 ?_
  refine g_put X (q0 := 4) 6 dX4_advance_7 gC_X4 rfl rfl (by decide) fl_X4_55 rfl rfl rfl rfl (Nat.le_of_ble_eq_true rfl) (pwS_20 ad cI _ _) ?_
  refine g_aload_n X (i := 0) dX4_advance_10 rfl rfl ?_
  refine g_get X (q0 := 4) (v := .int (w.1 15)) 0 dX4_advance_11 gC_X4 rfl rfl (by decide) fl_X4_9 rfl rfl ?_
  refine g_iconst X dX4_advance_14 (v := 3) (by decide) ?_
  refine g_icmp_ne X dX4_advance_15 (tgt := 26) (by decide) hf (fun c1 hf => ?_) (fun c1 hf => ?_)
  · refine g_aload_n X (i := 0) dX4_advance_18 rfl rfl ?_
    refine g_aload_n X (i := 1) dX4_advance_19 rfl rfl ?_
    obtain ⟨o2, h3, hf⟩ := hfb hf
    refine g_Vv X (q0 := 4) (As := [.ref (ad 3)]) (rest := []) (c_X4_sweep h3) dX4_advance_20 ml_X4_76 yv_X4_sweep rfl rfl rfl rfl ⟨Nat.le_of_ble_eq_true rfl, Nat.le_of_ble_eq_true rfl⟩ ⟨rfl, rfl⟩ (Nat.le_of_ble_eq_true rfl) ⟨Nat.le_of_ble_eq_true rfl, Nat.le_of_ble_eq_true rfl⟩ ?_
    refine g_goto X dX4_advance_23 (tgt := 74) (by decide) ?_
    exact g_vret X hr dX4_advance_74 hf
  · refine g_aload_n X (i := 0) dX4_advance_26 rfl rfl ?_
    refine g_get X (q0 := 4) (v := .ref (ad 6)) 3 dX4_advance_27 gC_X4 rfl rfl (by decide) fl_X4_18 rfl rfl ?_
    refine g_get X (q0 := 6) (v := .int (w.1 24)) 1 dX4_advance_30 gC_X3 rfl rfl (by decide) fl_X4_70 rfl rfl ?_
    refine g_if_le X dX4_advance_33 (tgt := 44) (by decide) hf (fun c4 hf => ?_) (fun c4 hf => ?_)
    · refine g_aload_n X (i := 0) dX4_advance_36 rfl rfl ?_
      refine g_aload_n X (i := 1) dX4_advance_37 rfl rfl ?_
      obtain ⟨o5, h6, hf⟩ := hfb hf
      refine g_Vv X (q0 := 4) (As := [.ref (ad 3)]) (rest := []) (c_X4_markFirst h6) dX4_advance_38 ml_X4_80 yv_X4_markFirst rfl rfl rfl rfl ⟨Nat.le_of_ble_eq_true rfl, Nat.le_of_ble_eq_true rfl⟩ ⟨rfl, rfl⟩ (Nat.le_of_ble_eq_true rfl) ⟨Nat.le_of_ble_eq_true rfl, Nat.le_of_ble_eq_true rfl⟩ ?_
      refine g_goto X dX4_advance_41 (tgt := 74) (by decide) ?_
      exact g_vret X hr dX4_advance_74 hf
    · refine g_aload_n X (i := 0) dX4_advance_44 rfl rfl ?_
      refine g_get X (q0 := 4) (v := .int (w.1 15)) 0 dX4_advance_45 gC_X4 rfl rfl (by decide) fl_X4_9 rfl rfl ?_
      refine g_iconst X dX4_advance_48 (v := 1) (by decide) ?_
      refine g_icmp_ne X dX4_advance_49 (tgt := 69) (by decide) hf (fun c7 hf => ?_) (fun c7 hf => ?_)
      · refine g_aload_n X (i := 1) dX4_advance_52 rfl rfl ?_
        refine g_aload_n X (i := 0) dX4_advance_53 rfl rfl ?_
        refine g_aload_n X (i := 1) dX4_advance_54 rfl rfl ?_
        obtain ⟨o8, h9, hf⟩ := hfb hf
        refine g_Vi X (q0 := 4) (As := [.ref (ad 3)]) (rest := [.ref (ad 3)]) (c_X4_whiteOnes h9) dX4_advance_55 ml_X4_83 yv_X4_whiteOnes rfl rfl rfl rfl ⟨Nat.le_of_ble_eq_true rfl, Nat.le_of_ble_eq_true rfl⟩ ⟨rfl, rfl⟩ (Nat.le_of_ble_eq_true rfl) ⟨Nat.le_of_ble_eq_true rfl, Nat.le_of_ble_eq_true rfl⟩ ?_
        obtain ⟨o10, h11, hf⟩ := hfb hf
        refine g_Vv X (q0 := 3) (As := [.int o8.1]) (rest := []) (c_X1_emptyHoldersOf h11) dX4_advance_58 ml_X4_87 yv_X1_emptyHoldersOf rfl rfl rfl rfl ⟨Nat.le_of_ble_eq_true rfl, Nat.le_of_ble_eq_true rfl⟩ ⟨rfl, rfl⟩ (Nat.le_of_ble_eq_true rfl) ⟨Nat.le_of_ble_eq_true rfl, Nat.le_of_ble_eq_true rfl⟩ ?_
        refine g_aload_n X (i := 0) dX4_advance_61 rfl rfl ?_
        refine g_iconst X dX4_advance_62 (v := 2) (by decide) ?_
        refine g_put X (q0 := 4) 0 dX4_advance_63 gC_X4 rfl rfl (by decide) fl_X4_9 rfl rfl rfl rfl (Nat.le_of_ble_eq_true rfl) (pwS_15 ad cI _ _) ?_
        refine g_goto X dX4_advance_66 (tgt := 74) (by decide) ?_
        exact g_vret X hr dX4_advance_74 hf
      · refine g_aload_n X (i := 0) dX4_advance_69 rfl rfl ?_
        refine g_aload_n X (i := 1) dX4_advance_70 rfl rfl ?_
        obtain ⟨o12, h13, hf⟩ := hfb hf
        refine g_Vv X (q0 := 4) (As := [.ref (ad 3)]) (rest := []) (c_X4_findToFinish h13) dX4_advance_71 ml_X4_90 yv_X4_findToFinish rfl rfl rfl rfl ⟨Nat.le_of_ble_eq_true rfl, Nat.le_of_ble_eq_true rfl⟩ ⟨rfl, rfl⟩ (Nat.le_of_ble_eq_true rfl) ⟨Nat.le_of_ble_eq_true rfl, Nat.le_of_ble_eq_true rfl⟩ ?_
        exact g_vret X hr dX4_advance_74 hf
def f_X5_takeCare (x1 x2 x3 : Int32) (w : St) : Option (Int32 × St) := (f_X4_needsCare w).bind fun o1 => (if o1.1 = 0 then some (0, o1.2) else (if (o1.2.1 10) = 1 then (if x1 = 0 then some (0, o1.2) else (f_X4_shade x3 o1.2).bind fun o6 => some (0, o6.2)) else (if x2 = x3 then some (0, o1.2) else (f_X4_shade x2 o1.2).bind fun o9 => some (0, o9.2))))
set_option maxRecDepth 100000 in
set_option maxHeartbeats 4000000 in
theorem c_X5_takeCare {l : Launch} {D : va_G} {cI : ClassId × ClassId} {A : Nat → Prop} {ad : Nat → Nat} {x1 x2 x3 : Int32} {w : St} {o : Int32 × St} (hf : f_X5_takeCare x1 x2 x3 w = some o) : CTv l D cI A yX5_takeCare cX5_takeCare 4 (none) rm_X5_takeCare [.ref (ad 2), .int x1, .int x2, .int x3] ((wS ad cI) w) ((wS ad cI) o.2)   := by
  refine CTv.of (by decide +kernel) rfl (Nat.le_of_ble_eq_true rfl) ?_
  intro p e s m args below meth c X hr
  have X : gX p s m args meth c cX5_takeCare 4 RX5 D cI := X
  show G _ _ _ _ _ _ _ _ _ _ _ _ _ _ _ _ _ 0 [some (.ref (ad 2)), some (.int x1), some (.int x2), some (.int x3)] [] w
  unfold f_X5_takeCare at hf
  refine g_aload_n X (i := 0) dX5_takeCare_0 rfl rfl ?_
  refine g_get X (q0 := 2) (v := .ref (ad 4)) 1 dX5_takeCare_1 gC_X5 rfl rfl (by decide) fl_X5_21 rfl rfl ?_
  obtain ⟨o1, h2, hf⟩ := hfb hf
  refine g_Vi X (q0 := 4) (As := []) (rest := []) (c_X4_needsCare h2) dX5_takeCare_4 ml_X5_119 yv_X4_needsCare rfl rfl rfl rfl ⟨Nat.le_of_ble_eq_true rfl, Nat.le_of_ble_eq_true rfl⟩ ⟨rfl, rfl⟩ (Nat.le_of_ble_eq_true rfl) ⟨Nat.le_of_ble_eq_true rfl, Nat.le_of_ble_eq_true rfl⟩ ?_
  refine g_if_ne X dX5_takeCare_7 (tgt := 11) (by decide) hf (fun c3 hf => ?_) (fun c3 hf => ?_)
  · exact g_vret X hr dX5_takeCare_10 hf
  · refine g_aload_n X (i := 0) dX5_takeCare_11 rfl rfl ?_
    refine g_get X (q0 := 2) (v := .int (o1.2.1 10)) 3 dX5_takeCare_12 gC_X5 rfl rfl (by decide) fl_X5_29 rfl rfl ?_
    refine g_iconst X dX5_takeCare_15 (v := 1) (by decide) ?_
    refine g_icmp_ne X dX5_takeCare_16 (tgt := 34) (by decide) hf (fun c4 hf => ?_) (fun c4 hf => ?_)
    · refine g_iload_n X (i := 1) dX5_takeCare_19 rfl rfl ?_
      refine g_if_eq X dX5_takeCare_20 (tgt := 47) (by decide) hf (fun c5 hf => ?_) (fun c5 hf => ?_)
      · exact g_vret X hr dX5_takeCare_47 hf
      · refine g_aload_n X (i := 0) dX5_takeCare_23 rfl rfl ?_
        refine g_get X (q0 := 2) (v := .ref (ad 4)) 1 dX5_takeCare_24 gC_X5 rfl rfl (by decide) fl_X5_21 rfl rfl ?_
        refine g_iload_n X (i := 3) dX5_takeCare_27 rfl rfl ?_
        obtain ⟨o6, h7, hf⟩ := hfb hf
        refine g_Vv X (q0 := 4) (As := [.int x3]) (rest := []) (c_X4_shade h7) dX5_takeCare_28 ml_X5_123 yv_X4_shade rfl rfl rfl rfl ⟨Nat.le_of_ble_eq_true rfl, Nat.le_of_ble_eq_true rfl⟩ ⟨rfl, rfl⟩ (Nat.le_of_ble_eq_true rfl) ⟨Nat.le_of_ble_eq_true rfl, Nat.le_of_ble_eq_true rfl⟩ ?_
        refine g_goto X dX5_takeCare_31 (tgt := 47) (by decide) ?_
        exact g_vret X hr dX5_takeCare_47 hf
    · refine g_iload_n X (i := 2) dX5_takeCare_34 rfl rfl ?_
      refine g_iload_n X (i := 3) dX5_takeCare_35 rfl rfl ?_
      refine g_icmp_eq X dX5_takeCare_36 (tgt := 47) (by decide) hf (fun c8 hf => ?_) (fun c8 hf => ?_)
      · exact g_vret X hr dX5_takeCare_47 hf
      · refine g_aload_n X (i := 0) dX5_takeCare_39 rfl rfl ?_
        refine g_get X (q0 := 2) (v := .ref (ad 4)) 1 dX5_takeCare_40 gC_X5 rfl rfl (by decide) fl_X5_21 rfl rfl ?_
        refine g_iload_n X (i := 2) dX5_takeCare_43 rfl rfl ?_
        obtain ⟨o9, h10, hf⟩ := hfb hf
        refine g_Vv X (q0 := 4) (As := [.int x2]) (rest := []) (c_X4_shade h10) dX5_takeCare_44 ml_X5_123 yv_X4_shade rfl rfl rfl rfl ⟨Nat.le_of_ble_eq_true rfl, Nat.le_of_ble_eq_true rfl⟩ ⟨rfl, rfl⟩ (Nat.le_of_ble_eq_true rfl) ⟨Nat.le_of_ble_eq_true rfl, Nat.le_of_ble_eq_true rfl⟩ ?_
        exact g_vret X hr dX5_takeCare_47 hf
def f_X5_referRoot (x1 x2 : Int32) (w : St) : Option (Int32 × St) := (f_X6_isIn x1 4 w).bind fun o1 => (if o1.1 = 0 then some (0, o1.2) else if ib x1 4 then if ib x1 4 then (f_X5_takeCare 1 (o1.2.2 2 x1.toNatClampNeg) x2 (sA o1.2 2 x1 x2)).bind fun o6 => some (0, o6.2) else none else none)
set_option maxRecDepth 100000 in
set_option maxHeartbeats 4000000 in
theorem c_X5_referRoot {l : Launch} {D : va_G} {cI : ClassId × ClassId} {A : Nat → Prop} {ad : Nat → Nat} {x1 x2 : Int32} {w : St} {o : Int32 × St} (hf : f_X5_referRoot x1 x2 w = some o) : CTv l D cI A yX5_referRoot cX5_referRoot 4 (none) rm_X5_referRoot [.ref (ad 2), .int x1, .int x2] ((wS ad cI) w) ((wS ad cI) o.2)   := by
  refine CTv.of (by decide +kernel) rfl (Nat.le_of_ble_eq_true rfl) ?_
  intro p e s m args below meth c X hr
  have X : gX p s m args meth c cX5_referRoot 4 RX5 D cI := X
  show G _ _ _ _ _ _ _ _ _ _ _ _ _ _ _ _ _ 0 [some (.ref (ad 2)), some (.int x1), some (.int x2), none] [] w
  unfold f_X5_referRoot at hf
  refine g_iload_n X (i := 1) dX5_referRoot_0 rfl rfl ?_
  refine g_iconst X dX5_referRoot_1 (v := 4) (by decide) ?_
  obtain ⟨o1, h2, hf⟩ := hfb hf
  refine g_Ni X (As := [.int x1, .int 4]) (rest := []) (c_X6_isIn (wf := (wS ad cI)) h2) dX5_referRoot_2 ml_X5_33 yv_X6_isIn rfl rfl ⟨Nat.le_of_ble_eq_true rfl, Nat.le_of_ble_eq_true rfl⟩ ⟨rfl, rfl⟩ (Nat.le_of_ble_eq_true rfl) ⟨Nat.le_of_ble_eq_true rfl, Nat.le_of_ble_eq_true rfl⟩ ?_
  refine g_if_ne X dX5_referRoot_5 (tgt := 9) (by decide) hf (fun c3 hf => ?_) (fun c3 hf => ?_)
  · exact g_vret X hr dX5_referRoot_8 hf
  · refine g_aload_n X (i := 0) dX5_referRoot_9 rfl rfl ?_
    refine g_get X (q0 := 2) (v := .ref (ad 3)) 0 dX5_referRoot_10 gC_X5 rfl rfl (by decide) fl_X5_12 rfl rfl ?_
    refine g_get X (q0 := 3) (v := .ref (ad 8)) 3 dX5_referRoot_13 gC_X1 rfl rfl (by decide) fl_X5_116 rfl rfl ?_
    refine g_iload_n X (i := 1) dX5_referRoot_16 rfl rfl ?_
    obtain ⟨hb4, hf⟩ := hfg hf
    refine g_iald X (q0 := 8) (f := o1.2.2 2) dX5_referRoot_17 rfl hb4 ?_
    refine g_istore_n X (i := 3) dX5_referRoot_18 rfl (by decide) rfl ?_
    refine g_aload_n X (i := 0) dX5_referRoot_19 rfl rfl ?_
    refine g_get X (q0 := 2) (v := .ref (ad 3)) 0 dX5_referRoot_20 gC_X5 rfl rfl (by decide) fl_X5_12 rfl rfl ?_
    refine g_get X (q0 := 3) (v := .ref (ad 8)) 3 dX5_referRoot_23 gC_X1 rfl rfl (by decide) fl_X5_116 rfl rfl ?_
    refine g_iload_n X (i := 1) dX5_referRoot_26 rfl rfl ?_
    refine g_iload_n X (i := 2) dX5_referRoot_27 rfl rfl ?_
    obtain ⟨hb5, hf⟩ := hfg hf
    refine g_iast X (q0 := 8) (f := o1.2.2 2) dX5_referRoot_28 rfl hb5 (awS_2 ad cI _ _ _) ?_
    refine g_aload_n X (i := 0) dX5_referRoot_29 rfl rfl ?_
    refine g_iconst X dX5_referRoot_30 (v := 1) (by decide) ?_
    refine g_iload_n X (i := 3) dX5_referRoot_31 rfl rfl ?_
    refine g_iload_n X (i := 2) dX5_referRoot_32 rfl rfl ?_
    obtain ⟨o6, h7, hf⟩ := hfb hf
    refine g_Vv X (q0 := 2) (As := [.int 1, .int (o1.2.2 2 x1.toNatClampNeg), .int x2]) (rest := []) (c_X5_takeCare h7) dX5_referRoot_33 ml_X5_80 yv_X5_takeCare rfl rfl rfl rfl ⟨Nat.le_of_ble_eq_true rfl, Nat.le_of_ble_eq_true rfl⟩ ⟨rfl, rfl⟩ (Nat.le_of_ble_eq_true rfl) ⟨Nat.le_of_ble_eq_true rfl, Nat.le_of_ble_eq_true rfl⟩ ?_
    exact g_vret X hr dX5_referRoot_36 hf
def f_X5_create (x1 : Int32) (w : St) : Option (Int32 × St) := (f_X6_isIn x1 4 w).bind fun o1 => (if o1.1 = 0 then some ((-11), o1.2) else (f_X1_bring o1.2).bind fun o4 => (f_X6_isIn o4.1 24 o4.2).bind fun o6 => (if o6.1 = 0 then some ((-13), o6.2) else if ib o4.1 24 then (f_X4_colourNewOne o4.1 (sA (sR o6.2 11 ((o6.2.1 11) + 1)) 6 o4.1 (o6.2.1 19))).bind fun o10 => (f_X5_referRoot x1 o4.1 o10.2).bind fun o12 => some (o4.1, o12.2) else none))
set_option maxRecDepth 100000 in
set_option maxHeartbeats 4000000 in
theorem c_X5_create {l : Launch} {D : va_G} {cI : ClassId × ClassId} {A : Nat → Prop} {ad : Nat → Nat} {x1 : Int32} {w : St} {o : Int32 × St} (hf : f_X5_create x1 w = some o) : CTi l D cI A yX5_create cX5_create 3 (some .int) rm_X5_create [.ref (ad 2), .int x1] ((wS ad cI) w) o.1 ((wS ad cI) o.2)   := by
  refine CTi.of (by decide +kernel) rfl (Nat.le_of_ble_eq_true rfl) ?_
  intro p e s m args below meth c X hr
  have X : gX p s m args meth c cX5_create 3 RX5 D cI := X
  show G _ _ _ _ _ _ _ _ _ _ _ _ _ _ _ _ _ 0 [some (.ref (ad 2)), some (.int x1), none] [] w
  unfold f_X5_create at hf
  refine g_iload_n X (i := 1) dX5_create_0 rfl rfl ?_
  refine g_iconst X dX5_create_1 (v := 4) (by decide) ?_
  obtain ⟨o1, h2, hf⟩ := hfb hf
  refine g_Ni X (As := [.int x1, .int 4]) (rest := []) (c_X6_isIn (wf := (wS ad cI)) h2) dX5_create_2 ml_X5_33 yv_X6_isIn rfl rfl ⟨Nat.le_of_ble_eq_true rfl, Nat.le_of_ble_eq_true rfl⟩ ⟨rfl, rfl⟩ (Nat.le_of_ble_eq_true rfl) ⟨Nat.le_of_ble_eq_true rfl, Nat.le_of_ble_eq_true rfl⟩ ?_
  refine g_if_ne X dX5_create_5 (tgt := 11) (by decide) hf (fun c3 hf => ?_) (fun c3 hf => ?_)
  · refine g_bipush X dX5_create_8 (v := (-11)) (by decide) ?_
    exact g_iret X hr dX5_create_10 hf
  · refine g_aload_n X (i := 0) dX5_create_11 rfl rfl ?_
    refine g_get X (q0 := 2) (v := .ref (ad 3)) 0 dX5_create_12 gC_X5 rfl rfl (by decide) fl_X5_12 rfl rfl ?_
    obtain ⟨o4, h5, hf⟩ := hfb hf
    refine g_Vi X (q0 := 3) (As := []) (rest := []) (c_X1_bring h5) dX5_create_15 ml_X5_37 yv_X1_bring rfl rfl rfl rfl ⟨Nat.le_of_ble_eq_true rfl, Nat.le_of_ble_eq_true rfl⟩ ⟨rfl, rfl⟩ (Nat.le_of_ble_eq_true rfl) ⟨Nat.le_of_ble_eq_true rfl, Nat.le_of_ble_eq_true rfl⟩ ?_
    refine g_istore_n X (i := 2) dX5_create_18 rfl (by decide) rfl ?_
    refine g_iload_n X (i := 2) dX5_create_19 rfl rfl ?_
    refine g_bipush X dX5_create_20 (v := 24) (by decide) ?_
    obtain ⟨o6, h7, hf⟩ := hfb hf
    refine g_Ni X (As := [.int o4.1, .int 24]) (rest := []) (c_X6_isIn (wf := (wS ad cI)) h7) dX5_create_22 ml_X5_33 yv_X6_isIn rfl rfl ⟨Nat.le_of_ble_eq_true rfl, Nat.le_of_ble_eq_true rfl⟩ ⟨rfl, rfl⟩ (Nat.le_of_ble_eq_true rfl) ⟨Nat.le_of_ble_eq_true rfl, Nat.le_of_ble_eq_true rfl⟩ ?_
    refine g_if_ne X dX5_create_25 (tgt := 31) (by decide) hf (fun c8 hf => ?_) (fun c8 hf => ?_)
    · refine g_bipush X dX5_create_28 (v := (-13)) (by decide) ?_
      exact g_iret X hr dX5_create_30 hf
    · refine g_aload_n X (i := 0) dX5_create_31 rfl rfl ?_
      refine g_dup X dX5_create_32 rfl ?_
      refine g_get X (q0 := 2) (v := .int (o6.2.1 11)) 4 dX5_create_33 gC_X5 rfl rfl (by decide) fl_X5_41 rfl rfl ?_
      refine g_iconst X dX5_create_36 (v := 1) (by decide) ?_
      refine g_iadd X dX5_create_37 ?_
      refine g_put X (q0 := 2) 4 dX5_create_38 gC_X5 rfl rfl (by decide) fl_X5_41 rfl rfl rfl rfl (Nat.le_of_ble_eq_true rfl) (pwS_11 ad cI _ _) ?_
      refine g_aload_n X (i := 0) dX5_create_41 rfl rfl ?_
      refine g_get X (q0 := 2) (v := .ref (ad 12)) 2 dX5_create_42 gC_X5 rfl rfl (by decide) fl_X5_25 rfl rfl ?_
      refine g_iload_n X (i := 2) dX5_create_45 rfl rfl ?_
      refine g_aload_n X (i := 0) dX5_create_46 rfl rfl ?_
      refine g_get X (q0 := 2) (v := .ref (ad 4)) 1 dX5_create_47 gC_X5 rfl rfl (by decide) fl_X5_21 rfl rfl ?_
      refine g_get X (q0 := 4) (v := .int (o6.2.1 19)) 5 dX5_create_50 gC_X4 rfl rfl (by decide) fl_X5_44 rfl rfl ?_
      obtain ⟨hb9, hf⟩ := hfg hf
      refine g_iast X (q0 := 12) (f := o6.2.2 6) dX5_create_53 rfl hb9 (awS_6 ad cI _ _ _) ?_
      refine g_aload_n X (i := 0) dX5_create_54 rfl rfl ?_
      refine g_get X (q0 := 2) (v := .ref (ad 4)) 1 dX5_create_55 gC_X5 rfl rfl (by decide) fl_X5_21 rfl rfl ?_
      refine g_iload_n X (i := 2) dX5_create_58 rfl rfl ?_
      obtain ⟨o10, h11, hf⟩ := hfb hf
      refine g_Vv X (q0 := 4) (As := [.int o4.1]) (rest := []) (c_X4_colourNewOne h11) dX5_create_59 ml_X5_47 yv_X4_colourNewOne rfl rfl rfl rfl ⟨Nat.le_of_ble_eq_true rfl, Nat.le_of_ble_eq_true rfl⟩ ⟨rfl, rfl⟩ (Nat.le_of_ble_eq_true rfl) ⟨Nat.le_of_ble_eq_true rfl, Nat.le_of_ble_eq_true rfl⟩ ?_
      refine g_aload_n X (i := 0) dX5_create_62 rfl rfl ?_
      refine g_iload_n X (i := 1) dX5_create_63 rfl rfl ?_
      refine g_iload_n X (i := 2) dX5_create_64 rfl rfl ?_
      obtain ⟨o12, h13, hf⟩ := hfb hf
      refine g_Vv X (q0 := 2) (As := [.int x1, .int o4.1]) (rest := []) (c_X5_referRoot h13) dX5_create_65 ml_X5_51 yv_X5_referRoot rfl rfl rfl rfl ⟨Nat.le_of_ble_eq_true rfl, Nat.le_of_ble_eq_true rfl⟩ ⟨rfl, rfl⟩ (Nat.le_of_ble_eq_true rfl) ⟨Nat.le_of_ble_eq_true rfl, Nat.le_of_ble_eq_true rfl⟩ ?_
      refine g_iload_n X (i := 2) dX5_create_68 rfl rfl ?_
      exact g_iret X hr dX5_create_69 hf
def f_X5_writeField (x1 x2 x3 : Int32) (w : St) : Option (Int32 × St) := (f_X1_has x1 w).bind fun o1 => (if o1.1 = 0 then some ((-11), o1.2) else (f_X6_isIn x2 3 o1.2).bind fun o4 => (if o4.1 = 0 then some ((-11), o4.2) else (f_X1_hasOrNone x3 o4.2).bind fun o7 => (if o7.1 = 0 then some ((-11), o7.2) else (f_X6_bit x1 o7.2).bind fun o10 => (f_X6_bit x3 o10.2).bind fun o12 => (f_X1_reachedByAll o12.2).bind fun o14 => (if ((o10.1 ||| o12.1) &&& (o14.1 ^^^ (-1))) = 0 then (f_X1_fieldOf x1 x2 o14.2).bind fun o17 => (f_X1_setField x1 x2 x3 o17.2).bind fun o19 => (f_X4_isBlack x1 o19.2).bind fun o21 => (f_X5_takeCare o21.1 o17.1 x3 o21.2).bind fun o23 => some (o17.1, o23.2) else some ((-12), o14.2)))))
set_option maxRecDepth 100000 in
set_option maxHeartbeats 4000000 in
theorem c_X5_writeField {l : Launch} {D : va_G} {cI : ClassId × ClassId} {A : Nat → Prop} {ad : Nat → Nat} {x1 x2 x3 : Int32} {w : St} {o : Int32 × St} (hf : f_X5_writeField x1 x2 x3 w = some o) : CTi l D cI A yX5_writeField cX5_writeField 5 (some .int) rm_X5_writeField [.ref (ad 2), .int x1, .int x2, .int x3] ((wS ad cI) w) o.1 ((wS ad cI) o.2)   := by
  refine CTi.of (by decide +kernel) rfl (Nat.le_of_ble_eq_true rfl) ?_
  intro p e s m args below meth c X hr
  have X : gX p s m args meth c cX5_writeField 5 RX5 D cI := X
  show G _ _ _ _ _ _ _ _ _ _ _ _ _ _ _ _ _ 0 [some (.ref (ad 2)), some (.int x1), some (.int x2), some (.int x3), none] [] w
  unfold f_X5_writeField at hf
  refine g_aload_n X (i := 0) dX5_writeField_0 rfl rfl ?_
  refine g_get X (q0 := 2) (v := .ref (ad 3)) 0 dX5_writeField_1 gC_X5 rfl rfl (by decide) fl_X5_12 rfl rfl ?_
  refine g_iload_n X (i := 1) dX5_writeField_4 rfl rfl ?_
  obtain ⟨o1, h2, hf⟩ := hfb hf
  refine g_Vi X (q0 := 3) (As := [.int x1]) (rest := []) (c_X1_has h2) dX5_writeField_5 ml_X5_55 yv_X1_has rfl rfl rfl rfl ⟨Nat.le_of_ble_eq_true rfl, Nat.le_of_ble_eq_true rfl⟩ ⟨rfl, rfl⟩ (Nat.le_of_ble_eq_true rfl) ⟨Nat.le_of_ble_eq_true rfl, Nat.le_of_ble_eq_true rfl⟩ ?_
  refine g_if_eq X dX5_writeField_8 (tgt := 30) (by decide) hf (fun c3 hf => ?_) (fun c3 hf => ?_)
  · refine g_bipush X dX5_writeField_30 (v := (-11)) (by decide) ?_
    exact g_iret X hr dX5_writeField_32 hf
  · refine g_iload_n X (i := 2) dX5_writeField_11 rfl rfl ?_
    refine g_iconst X dX5_writeField_12 (v := 3) (by decide) ?_
    obtain ⟨o4, h5, hf⟩ := hfb hf
    refine g_Ni X (As := [.int x2, .int 3]) (rest := []) (c_X6_isIn (wf := (wS ad cI)) h5) dX5_writeField_13 ml_X5_33 yv_X6_isIn rfl rfl ⟨Nat.le_of_ble_eq_true rfl, Nat.le_of_ble_eq_true rfl⟩ ⟨rfl, rfl⟩ (Nat.le_of_ble_eq_true rfl) ⟨Nat.le_of_ble_eq_true rfl, Nat.le_of_ble_eq_true rfl⟩ ?_
    refine g_if_eq X dX5_writeField_16 (tgt := 30) (by decide) hf (fun c6 hf => ?_) (fun c6 hf => ?_)
    · refine g_bipush X dX5_writeField_30 (v := (-11)) (by decide) ?_
      exact g_iret X hr dX5_writeField_32 hf
    · refine g_aload_n X (i := 0) dX5_writeField_19 rfl rfl ?_
      refine g_get X (q0 := 2) (v := .ref (ad 3)) 0 dX5_writeField_20 gC_X5 rfl rfl (by decide) fl_X5_12 rfl rfl ?_
      refine g_iload_n X (i := 3) dX5_writeField_23 rfl rfl ?_
      obtain ⟨o7, h8, hf⟩ := hfb hf
      refine g_Vi X (q0 := 3) (As := [.int x3]) (rest := []) (c_X1_hasOrNone h8) dX5_writeField_24 ml_X5_59 yv_X1_hasOrNone rfl rfl rfl rfl ⟨Nat.le_of_ble_eq_true rfl, Nat.le_of_ble_eq_true rfl⟩ ⟨rfl, rfl⟩ (Nat.le_of_ble_eq_true rfl) ⟨Nat.le_of_ble_eq_true rfl, Nat.le_of_ble_eq_true rfl⟩ ?_
      refine g_if_ne X dX5_writeField_27 (tgt := 33) (by decide) hf (fun c9 hf => ?_) (fun c9 hf => ?_)
      · refine g_bipush X dX5_writeField_30 (v := (-11)) (by decide) ?_
        exact g_iret X hr dX5_writeField_32 hf
      · refine g_iload_n X (i := 1) dX5_writeField_33 rfl rfl ?_
        obtain ⟨o10, h11, hf⟩ := hfb hf
        refine g_Ni X (As := [.int x1]) (rest := []) (c_X6_bit (wf := (wS ad cI)) h11) dX5_writeField_34 ml_X5_62 yv_X6_bit rfl rfl ⟨Nat.le_of_ble_eq_true rfl, Nat.le_of_ble_eq_true rfl⟩ ⟨rfl, rfl⟩ (Nat.le_of_ble_eq_true rfl) ⟨Nat.le_of_ble_eq_true rfl, Nat.le_of_ble_eq_true rfl⟩ ?_
        refine g_iload_n X (i := 3) dX5_writeField_37 rfl rfl ?_
        obtain ⟨o12, h13, hf⟩ := hfb hf
        refine g_Ni X (As := [.int x3]) (rest := [.int o10.1]) (c_X6_bit (wf := (wS ad cI)) h13) dX5_writeField_38 ml_X5_62 yv_X6_bit rfl rfl ⟨Nat.le_of_ble_eq_true rfl, Nat.le_of_ble_eq_true rfl⟩ ⟨rfl, rfl⟩ (Nat.le_of_ble_eq_true rfl) ⟨Nat.le_of_ble_eq_true rfl, Nat.le_of_ble_eq_true rfl⟩ ?_
        refine g_ior X dX5_writeField_41 ?_
        refine g_aload_n X (i := 0) dX5_writeField_42 rfl rfl ?_
        refine g_get X (q0 := 2) (v := .ref (ad 3)) 0 dX5_writeField_43 gC_X5 rfl rfl (by decide) fl_X5_12 rfl rfl ?_
        obtain ⟨o14, h15, hf⟩ := hfb hf
        refine g_Vi X (q0 := 3) (As := []) (rest := [.int (o10.1 ||| o12.1)]) (c_X1_reachedByAll h15) dX5_writeField_46 ml_X5_66 yv_X1_reachedByAll rfl rfl rfl rfl ⟨Nat.le_of_ble_eq_true rfl, Nat.le_of_ble_eq_true rfl⟩ ⟨rfl, rfl⟩ (Nat.le_of_ble_eq_true rfl) ⟨Nat.le_of_ble_eq_true rfl, Nat.le_of_ble_eq_true rfl⟩ ?_
        refine g_iconst X dX5_writeField_49 (v := (-1)) (by decide) ?_
        refine g_ixor X dX5_writeField_50 ?_
        refine g_iand X dX5_writeField_51 ?_
        refine g_if_eq X dX5_writeField_52 (tgt := 58) (by decide) hf (fun c16 hf => ?_) (fun c16 hf => ?_)
        · refine g_aload_n X (i := 0) dX5_writeField_58 rfl rfl ?_
          refine g_get X (q0 := 2) (v := .ref (ad 3)) 0 dX5_writeField_59 gC_X5 rfl rfl (by decide) fl_X5_12 rfl rfl ?_
          refine g_iload_n X (i := 1) dX5_writeField_62 rfl rfl ?_
          refine g_iload_n X (i := 2) dX5_writeField_63 rfl rfl ?_
          obtain ⟨o17, h18, hf⟩ := hfb hf
          refine g_Vi X (q0 := 3) (As := [.int x1, .int x2]) (rest := []) (c_X1_fieldOf h18) dX5_writeField_64 ml_X5_69 yv_X1_fieldOf rfl rfl rfl rfl ⟨Nat.le_of_ble_eq_true rfl, Nat.le_of_ble_eq_true rfl⟩ ⟨rfl, rfl⟩ (Nat.le_of_ble_eq_true rfl) ⟨Nat.le_of_ble_eq_true rfl, Nat.le_of_ble_eq_true rfl⟩ ?_
          refine g_istore X dX5_writeField_67 (by decide) rfl ?_
          refine g_aload_n X (i := 0) dX5_writeField_69 rfl rfl ?_
          refine g_get X (q0 := 2) (v := .ref (ad 3)) 0 dX5_writeField_70 gC_X5 rfl rfl (by decide) fl_X5_12 rfl rfl ?_
          refine g_iload_n X (i := 1) dX5_writeField_73 rfl rfl ?_
          refine g_iload_n X (i := 2) dX5_writeField_74 rfl rfl ?_
          refine g_iload_n X (i := 3) dX5_writeField_75 rfl rfl ?_
          obtain ⟨o19, h20, hf⟩ := hfb hf
          refine g_Vv X (q0 := 3) (As := [.int x1, .int x2, .int x3]) (rest := []) (c_X1_setField h20) dX5_writeField_76 ml_X5_73 yv_X1_setField rfl rfl rfl rfl ⟨Nat.le_of_ble_eq_true rfl, Nat.le_of_ble_eq_true rfl⟩ ⟨rfl, rfl⟩ (Nat.le_of_ble_eq_true rfl) ⟨Nat.le_of_ble_eq_true rfl, Nat.le_of_ble_eq_true rfl⟩ ?_
          refine g_aload_n X (i := 0) dX5_writeField_79 rfl rfl ?_
          refine g_aload_n X (i := 0) dX5_writeField_80 rfl rfl ?_
          refine g_get X (q0 := 2) (v := .ref (ad 4)) 1 dX5_writeField_81 gC_X5 rfl rfl (by decide) fl_X5_21 rfl rfl ?_
          refine g_iload_n X (i := 1) dX5_writeField_84 rfl rfl ?_
          obtain ⟨o21, h22, hf⟩ := hfb hf
          refine g_Vi X (q0 := 4) (As := [.int x1]) (rest := [.ref (ad 2)]) (c_X4_isBlack h22) dX5_writeField_85 ml_X5_77 yv_X4_isBlack rfl rfl rfl rfl ⟨Nat.le_of_ble_eq_true rfl, Nat.le_of_ble_eq_true rfl⟩ ⟨rfl, rfl⟩ (Nat.le_of_ble_eq_true rfl) ⟨Nat.le_of_ble_eq_true rfl, Nat.le_of_ble_eq_true rfl⟩ ?_
          refine g_iload X dX5_writeField_88 rfl ?_
          refine g_iload_n X (i := 3) dX5_writeField_90 rfl rfl ?_
          obtain ⟨o23, h24, hf⟩ := hfb hf
          refine g_Vv X (q0 := 2) (As := [.int o21.1, .int o17.1, .int x3]) (rest := []) (c_X5_takeCare h24) dX5_writeField_91 ml_X5_80 yv_X5_takeCare rfl rfl rfl rfl ⟨Nat.le_of_ble_eq_true rfl, Nat.le_of_ble_eq_true rfl⟩ ⟨rfl, rfl⟩ (Nat.le_of_ble_eq_true rfl) ⟨Nat.le_of_ble_eq_true rfl, Nat.le_of_ble_eq_true rfl⟩ ?_
          refine g_iload X dX5_writeField_94 rfl ?_
          exact g_iret X hr dX5_writeField_96 hf
        · refine g_bipush X dX5_writeField_55 (v := (-12)) (by decide) ?_
          exact g_iret X hr dX5_writeField_57 hf
def f_X5_writeRoot (x1 x2 : Int32) (w : St) : Option (Int32 × St) := (f_X6_isIn x1 4 w).bind fun o1 => (if o1.1 = 0 then some ((-11), o1.2) else (f_X1_hasOrNone x2 o1.2).bind fun o4 => (if o4.1 = 0 then some ((-11), o4.2) else (f_X6_bit x2 o4.2).bind fun o7 => (f_X1_reachedByAll o7.2).bind fun o9 => (if (o7.1 &&& (o9.1 ^^^ (-1))) = 0 then (f_X1_rootAt x1 o9.2).bind fun o12 => (f_X5_referRoot x1 x2 o12.2).bind fun o14 => some (o12.1, o14.2) else some ((-12), o9.2))))
set_option maxRecDepth 100000 in
set_option maxHeartbeats 4000000 in
theorem c_X5_writeRoot {l : Launch} {D : va_G} {cI : ClassId × ClassId} {A : Nat → Prop} {ad : Nat → Nat} {x1 x2 : Int32} {w : St} {o : Int32 × St} (hf : f_X5_writeRoot x1 x2 w = some o) : CTi l D cI A yX5_writeRoot cX5_writeRoot 4 (some .int) rm_X5_writeRoot [.ref (ad 2), .int x1, .int x2] ((wS ad cI) w) o.1 ((wS ad cI) o.2)   := by
  refine CTi.of (by decide +kernel) rfl (Nat.le_of_ble_eq_true rfl) ?_
  intro p e s m args below meth c X hr
  have X : gX p s m args meth c cX5_writeRoot 4 RX5 D cI := X
  show G _ _ _ _ _ _ _ _ _ _ _ _ _ _ _ _ _ 0 [some (.ref (ad 2)), some (.int x1), some (.int x2), none] [] w
  unfold f_X5_writeRoot at hf
  refine g_iload_n X (i := 1) dX5_writeRoot_0 rfl rfl ?_
  refine g_iconst X dX5_writeRoot_1 (v := 4) (by decide) ?_
  obtain ⟨o1, h2, hf⟩ := hfb hf
  refine g_Ni X (As := [.int x1, .int 4]) (rest := []) (c_X6_isIn (wf := (wS ad cI)) h2) dX5_writeRoot_2 ml_X5_33 yv_X6_isIn rfl rfl ⟨Nat.le_of_ble_eq_true rfl, Nat.le_of_ble_eq_true rfl⟩ ⟨rfl, rfl⟩ (Nat.le_of_ble_eq_true rfl) ⟨Nat.le_of_ble_eq_true rfl, Nat.le_of_ble_eq_true rfl⟩ ?_
  refine g_if_eq X dX5_writeRoot_5 (tgt := 19) (by decide) hf (fun c3 hf => ?_) (fun c3 hf => ?_)
  · refine g_bipush X dX5_writeRoot_19 (v := (-11)) (by decide) ?_
    exact g_iret X hr dX5_writeRoot_21 hf
  · refine g_aload_n X (i := 0) dX5_writeRoot_8 rfl rfl ?_
    refine g_get X (q0 := 2) (v := .ref (ad 3)) 0 dX5_writeRoot_9 gC_X5 rfl rfl (by decide) fl_X5_12 rfl rfl ?_
    refine g_iload_n X (i := 2) dX5_writeRoot_12 rfl rfl ?_
    obtain ⟨o4, h5, hf⟩ := hfb hf
    refine g_Vi X (q0 := 3) (As := [.int x2]) (rest := []) (c_X1_hasOrNone h5) dX5_writeRoot_13 ml_X5_59 yv_X1_hasOrNone rfl rfl rfl rfl ⟨Nat.le_of_ble_eq_true rfl, Nat.le_of_ble_eq_true rfl⟩ ⟨rfl, rfl⟩ (Nat.le_of_ble_eq_true rfl) ⟨Nat.le_of_ble_eq_true rfl, Nat.le_of_ble_eq_true rfl⟩ ?_
    refine g_if_ne X dX5_writeRoot_16 (tgt := 22) (by decide) hf (fun c6 hf => ?_) (fun c6 hf => ?_)
    · refine g_bipush X dX5_writeRoot_19 (v := (-11)) (by decide) ?_
      exact g_iret X hr dX5_writeRoot_21 hf
    · refine g_iload_n X (i := 2) dX5_writeRoot_22 rfl rfl ?_
      obtain ⟨o7, h8, hf⟩ := hfb hf
      refine g_Ni X (As := [.int x2]) (rest := []) (c_X6_bit (wf := (wS ad cI)) h8) dX5_writeRoot_23 ml_X5_62 yv_X6_bit rfl rfl ⟨Nat.le_of_ble_eq_true rfl, Nat.le_of_ble_eq_true rfl⟩ ⟨rfl, rfl⟩ (Nat.le_of_ble_eq_true rfl) ⟨Nat.le_of_ble_eq_true rfl, Nat.le_of_ble_eq_true rfl⟩ ?_
      refine g_aload_n X (i := 0) dX5_writeRoot_26 rfl rfl ?_
      refine g_get X (q0 := 2) (v := .ref (ad 3)) 0 dX5_writeRoot_27 gC_X5 rfl rfl (by decide) fl_X5_12 rfl rfl ?_
      obtain ⟨o9, h10, hf⟩ := hfb hf
      refine g_Vi X (q0 := 3) (As := []) (rest := [.int o7.1]) (c_X1_reachedByAll h10) dX5_writeRoot_30 ml_X5_66 yv_X1_reachedByAll rfl rfl rfl rfl ⟨Nat.le_of_ble_eq_true rfl, Nat.le_of_ble_eq_true rfl⟩ ⟨rfl, rfl⟩ (Nat.le_of_ble_eq_true rfl) ⟨Nat.le_of_ble_eq_true rfl, Nat.le_of_ble_eq_true rfl⟩ ?_
      refine g_iconst X dX5_writeRoot_33 (v := (-1)) (by decide) ?_
      refine g_ixor X dX5_writeRoot_34 ?_
      refine g_iand X dX5_writeRoot_35 ?_
      refine g_if_eq X dX5_writeRoot_36 (tgt := 42) (by decide) hf (fun c11 hf => ?_) (fun c11 hf => ?_)
      · refine g_aload_n X (i := 0) dX5_writeRoot_42 rfl rfl ?_
        refine g_get X (q0 := 2) (v := .ref (ad 3)) 0 dX5_writeRoot_43 gC_X5 rfl rfl (by decide) fl_X5_12 rfl rfl ?_
        refine g_iload_n X (i := 1) dX5_writeRoot_46 rfl rfl ?_
        obtain ⟨o12, h13, hf⟩ := hfb hf
        refine g_Vi X (q0 := 3) (As := [.int x1]) (rest := []) (c_X1_rootAt h13) dX5_writeRoot_47 ml_X5_84 yv_X1_rootAt rfl rfl rfl rfl ⟨Nat.le_of_ble_eq_true rfl, Nat.le_of_ble_eq_true rfl⟩ ⟨rfl, rfl⟩ (Nat.le_of_ble_eq_true rfl) ⟨Nat.le_of_ble_eq_true rfl, Nat.le_of_ble_eq_true rfl⟩ ?_
        refine g_istore_n X (i := 3) dX5_writeRoot_50 rfl (by decide) rfl ?_
        refine g_aload_n X (i := 0) dX5_writeRoot_51 rfl rfl ?_
        refine g_iload_n X (i := 1) dX5_writeRoot_52 rfl rfl ?_
        refine g_iload_n X (i := 2) dX5_writeRoot_53 rfl rfl ?_
        obtain ⟨o14, h15, hf⟩ := hfb hf
        refine g_Vv X (q0 := 2) (As := [.int x1, .int x2]) (rest := []) (c_X5_referRoot h15) dX5_writeRoot_54 ml_X5_51 yv_X5_referRoot rfl rfl rfl rfl ⟨Nat.le_of_ble_eq_true rfl, Nat.le_of_ble_eq_true rfl⟩ ⟨rfl, rfl⟩ (Nat.le_of_ble_eq_true rfl) ⟨Nat.le_of_ble_eq_true rfl, Nat.le_of_ble_eq_true rfl⟩ ?_
        refine g_iload_n X (i := 3) dX5_writeRoot_57 rfl rfl ?_
        exact g_iret X hr dX5_writeRoot_58 hf
      · refine g_bipush X dX5_writeRoot_39 (v := (-12)) (by decide) ?_
        exact g_iret X hr dX5_writeRoot_41 hf
def f_X5_writeHolder (x1 x2 : Int32) (w : St) : Option (Int32 × St) := (f_X6_isIn x1 4 w).bind fun o1 => (if o1.1 = 0 then some ((-11), o1.2) else (f_X1_hasOrNone x2 o1.2).bind fun o4 => (if o4.1 = 0 then some ((-11), o4.2) else (f_X6_bit x2 o4.2).bind fun o7 => (f_X1_reachedByAll o7.2).bind fun o9 => (if (o7.1 &&& (o9.1 ^^^ (-1))) = 0 then (f_X1_holderAt x1 o9.2).bind fun o12 => if ib x1 4 then some (o12.1, sA o12.2 3 x1 x2) else none else some ((-12), o9.2))))
set_option maxRecDepth 100000 in
set_option maxHeartbeats 4000000 in
theorem c_X5_writeHolder {l : Launch} {D : va_G} {cI : ClassId × ClassId} {A : Nat → Prop} {ad : Nat → Nat} {x1 x2 : Int32} {w : St} {o : Int32 × St} (hf : f_X5_writeHolder x1 x2 w = some o) : CTi l D cI A yX5_writeHolder cX5_writeHolder 4 (some .int) rm_X5_writeHolder [.ref (ad 2), .int x1, .int x2] ((wS ad cI) w) o.1 ((wS ad cI) o.2)   := by
  refine CTi.of (by decide +kernel) rfl (Nat.le_of_ble_eq_true rfl) ?_
  intro p e s m args below meth c X hr
  have X : gX p s m args meth c cX5_writeHolder 4 RX5 D cI := X
  show G _ _ _ _ _ _ _ _ _ _ _ _ _ _ _ _ _ 0 [some (.ref (ad 2)), some (.int x1), some (.int x2), none] [] w
  unfold f_X5_writeHolder at hf
  refine g_iload_n X (i := 1) dX5_writeHolder_0 rfl rfl ?_
  refine g_iconst X dX5_writeHolder_1 (v := 4) (by decide) ?_
  obtain ⟨o1, h2, hf⟩ := hfb hf
  refine g_Ni X (As := [.int x1, .int 4]) (rest := []) (c_X6_isIn (wf := (wS ad cI)) h2) dX5_writeHolder_2 ml_X5_33 yv_X6_isIn rfl rfl ⟨Nat.le_of_ble_eq_true rfl, Nat.le_of_ble_eq_true rfl⟩ ⟨rfl, rfl⟩ (Nat.le_of_ble_eq_true rfl) ⟨Nat.le_of_ble_eq_true rfl, Nat.le_of_ble_eq_true rfl⟩ ?_
  refine g_if_eq X dX5_writeHolder_5 (tgt := 19) (by decide) hf (fun c3 hf => ?_) (fun c3 hf => ?_)
  · refine g_bipush X dX5_writeHolder_19 (v := (-11)) (by decide) ?_
    exact g_iret X hr dX5_writeHolder_21 hf
  · refine g_aload_n X (i := 0) dX5_writeHolder_8 rfl rfl ?_
    refine g_get X (q0 := 2) (v := .ref (ad 3)) 0 dX5_writeHolder_9 gC_X5 rfl rfl (by decide) fl_X5_12 rfl rfl ?_
    refine g_iload_n X (i := 2) dX5_writeHolder_12 rfl rfl ?_
    obtain ⟨o4, h5, hf⟩ := hfb hf
    refine g_Vi X (q0 := 3) (As := [.int x2]) (rest := []) (c_X1_hasOrNone h5) dX5_writeHolder_13 ml_X5_59 yv_X1_hasOrNone rfl rfl rfl rfl ⟨Nat.le_of_ble_eq_true rfl, Nat.le_of_ble_eq_true rfl⟩ ⟨rfl, rfl⟩ (Nat.le_of_ble_eq_true rfl) ⟨Nat.le_of_ble_eq_true rfl, Nat.le_of_ble_eq_true rfl⟩ ?_
    refine g_if_ne X dX5_writeHolder_16 (tgt := 22) (by decide) hf (fun c6 hf => ?_) (fun c6 hf => ?_)
    · refine g_bipush X dX5_writeHolder_19 (v := (-11)) (by decide) ?_
      exact g_iret X hr dX5_writeHolder_21 hf
    · refine g_iload_n X (i := 2) dX5_writeHolder_22 rfl rfl ?_
      obtain ⟨o7, h8, hf⟩ := hfb hf
      refine g_Ni X (As := [.int x2]) (rest := []) (c_X6_bit (wf := (wS ad cI)) h8) dX5_writeHolder_23 ml_X5_62 yv_X6_bit rfl rfl ⟨Nat.le_of_ble_eq_true rfl, Nat.le_of_ble_eq_true rfl⟩ ⟨rfl, rfl⟩ (Nat.le_of_ble_eq_true rfl) ⟨Nat.le_of_ble_eq_true rfl, Nat.le_of_ble_eq_true rfl⟩ ?_
      refine g_aload_n X (i := 0) dX5_writeHolder_26 rfl rfl ?_
      refine g_get X (q0 := 2) (v := .ref (ad 3)) 0 dX5_writeHolder_27 gC_X5 rfl rfl (by decide) fl_X5_12 rfl rfl ?_
      obtain ⟨o9, h10, hf⟩ := hfb hf
      refine g_Vi X (q0 := 3) (As := []) (rest := [.int o7.1]) (c_X1_reachedByAll h10) dX5_writeHolder_30 ml_X5_66 yv_X1_reachedByAll rfl rfl rfl rfl ⟨Nat.le_of_ble_eq_true rfl, Nat.le_of_ble_eq_true rfl⟩ ⟨rfl, rfl⟩ (Nat.le_of_ble_eq_true rfl) ⟨Nat.le_of_ble_eq_true rfl, Nat.le_of_ble_eq_true rfl⟩ ?_
      refine g_iconst X dX5_writeHolder_33 (v := (-1)) (by decide) ?_
      refine g_ixor X dX5_writeHolder_34 ?_
      refine g_iand X dX5_writeHolder_35 ?_
      refine g_if_eq X dX5_writeHolder_36 (tgt := 42) (by decide) hf (fun c11 hf => ?_) (fun c11 hf => ?_)
      · refine g_aload_n X (i := 0) dX5_writeHolder_42 rfl rfl ?_
        refine g_get X (q0 := 2) (v := .ref (ad 3)) 0 dX5_writeHolder_43 gC_X5 rfl rfl (by decide) fl_X5_12 rfl rfl ?_
        refine g_iload_n X (i := 1) dX5_writeHolder_46 rfl rfl ?_
        obtain ⟨o12, h13, hf⟩ := hfb hf
        refine g_Vi X (q0 := 3) (As := [.int x1]) (rest := []) (c_X1_holderAt h13) dX5_writeHolder_47 ml_X5_87 yv_X1_holderAt rfl rfl rfl rfl ⟨Nat.le_of_ble_eq_true rfl, Nat.le_of_ble_eq_true rfl⟩ ⟨rfl, rfl⟩ (Nat.le_of_ble_eq_true rfl) ⟨Nat.le_of_ble_eq_true rfl, Nat.le_of_ble_eq_true rfl⟩ ?_
        refine g_istore_n X (i := 3) dX5_writeHolder_50 rfl (by decide) rfl ?_
        refine g_aload_n X (i := 0) dX5_writeHolder_51 rfl rfl ?_
        refine g_get X (q0 := 2) (v := .ref (ad 3)) 0 dX5_writeHolder_52 gC_X5 rfl rfl (by decide) fl_X5_12 rfl rfl ?_
        refine g_get X (q0 := 3) (v := .ref (ad 9)) 4 dX5_writeHolder_55 gC_X1 rfl rfl (by decide) fl_X5_90 rfl rfl ?_
        refine g_iload_n X (i := 1) dX5_writeHolder_58 rfl rfl ?_
        refine g_iload_n X (i := 2) dX5_writeHolder_59 rfl rfl ?_
        obtain ⟨hb14, hf⟩ := hfg hf
        refine g_iast X (q0 := 9) (f := o12.2.2 3) dX5_writeHolder_60 rfl hb14 (awS_3 ad cI _ _ _) ?_
        refine g_iload_n X (i := 3) dX5_writeHolder_61 rfl rfl ?_
        exact g_iret X hr dX5_writeHolder_62 hf
      · refine g_bipush X dX5_writeHolder_39 (v := (-12)) (by decide) ?_
        exact g_iret X hr dX5_writeHolder_41 hf
def f_X5_shadeIfCareIsNeeded (x1 : Int32) (w : St) : Option (Int32 × St) := (f_X4_needsCare w).bind fun o1 => (if o1.1 = 0 then some (0, o1.2) else (f_X4_shade x1 o1.2).bind fun o4 => some (0, o4.2))
set_option maxRecDepth 100000 in
set_option maxHeartbeats 4000000 in
theorem c_X5_shadeIfCareIsNeeded {l : Launch} {D : va_G} {cI : ClassId × ClassId} {A : Nat → Prop} {ad : Nat → Nat} {x1 : Int32} {w : St} {o : Int32 × St} (hf : f_X5_shadeIfCareIsNeeded x1 w = some o) : CTv l D cI A yX5_shadeIfCareIsNeeded cX5_shadeIfCareIsNeeded 2 (none) rm_X5_shadeIfCareIsNeeded [.ref (ad 2), .int x1] ((wS ad cI) w) ((wS ad cI) o.2)   := by
  refine CTv.of (by decide +kernel) rfl (Nat.le_of_ble_eq_true rfl) ?_
  intro p e s m args below meth c X hr
  have X : gX p s m args meth c cX5_shadeIfCareIsNeeded 2 RX5 D cI := X
  show G _ _ _ _ _ _ _ _ _ _ _ _ _ _ _ _ _ 0 [some (.ref (ad 2)), some (.int x1)] [] w
  unfold f_X5_shadeIfCareIsNeeded at hf
  refine g_aload_n X (i := 0) dX5_shadeIfCareIsNeeded_0 rfl rfl ?_
  refine g_get X (q0 := 2) (v := .ref (ad 4)) 1 dX5_shadeIfCareIsNeeded_1 gC_X5 rfl rfl (by decide) fl_X5_21 rfl rfl ?_
  obtain ⟨o1, h2, hf⟩ := hfb hf
  refine g_Vi X (q0 := 4) (As := []) (rest := []) (c_X4_needsCare h2) dX5_shadeIfCareIsNeeded_4 ml_X5_119 yv_X4_needsCare rfl rfl rfl rfl ⟨Nat.le_of_ble_eq_true rfl, Nat.le_of_ble_eq_true rfl⟩ ⟨rfl, rfl⟩ (Nat.le_of_ble_eq_true rfl) ⟨Nat.le_of_ble_eq_true rfl, Nat.le_of_ble_eq_true rfl⟩ ?_
  refine g_if_eq X dX5_shadeIfCareIsNeeded_7 (tgt := 18) (by decide) hf (fun c3 hf => ?_) (fun c3 hf => ?_)
  · exact g_vret X hr dX5_shadeIfCareIsNeeded_18 hf
  · refine g_aload_n X (i := 0) dX5_shadeIfCareIsNeeded_10 rfl rfl ?_
    refine g_get X (q0 := 2) (v := .ref (ad 4)) 1 dX5_shadeIfCareIsNeeded_11 gC_X5 rfl rfl (by decide) fl_X5_21 rfl rfl ?_
    refine g_iload_n X (i := 1) dX5_shadeIfCareIsNeeded_14 rfl rfl ?_
    obtain ⟨o4, h5, hf⟩ := hfb hf
    refine g_Vv X (q0 := 4) (As := [.int x1]) (rest := []) (c_X4_shade h5) dX5_shadeIfCareIsNeeded_15 ml_X5_123 yv_X4_shade rfl rfl rfl rfl ⟨Nat.le_of_ble_eq_true rfl, Nat.le_of_ble_eq_true rfl⟩ ⟨rfl, rfl⟩ (Nat.le_of_ble_eq_true rfl) ⟨Nat.le_of_ble_eq_true rfl, Nat.le_of_ble_eq_true rfl⟩ ?_
    exact g_vret X hr dX5_shadeIfCareIsNeeded_18 hf
def f_X5_askHolder (x1 x2 : Int32) (w : St) : Option (Int32 × St) := (f_X6_isIn x1 4 w).bind fun o1 => (if o1.1 = 0 then some ((-11), o1.2) else (f_X6_isIn x2 4 o1.2).bind fun o4 => (if o4.1 = 0 then some ((-11), o4.2) else (f_X1_holderAt x1 o4.2).bind fun o7 => (if o7.1 = (-1) then some ((-14), o7.2) else (f_X5_referRoot x2 o7.1 o7.2).bind fun o10 => (f_X5_shadeIfCareIsNeeded o7.1 o10.2).bind fun o12 => some (o7.1, o12.2))))
set_option maxRecDepth 100000 in
set_option maxHeartbeats 4000000 in
theorem c_X5_askHolder {l : Launch} {D : va_G} {cI : ClassId × ClassId} {A : Nat → Prop} {ad : Nat → Nat} {x1 x2 : Int32} {w : St} {o : Int32 × St} (hf : f_X5_askHolder x1 x2 w = some o) : CTi l D cI A yX5_askHolder cX5_askHolder 4 (some .int) rm_X5_askHolder [.ref (ad 2), .int x1, .int x2] ((wS ad cI) w) o.1 ((wS ad cI) o.2)   := by
  refine CTi.of (by decide +kernel) rfl (Nat.le_of_ble_eq_true rfl) ?_
  intro p e s m args below meth c X hr
  have X : gX p s m args meth c cX5_askHolder 4 RX5 D cI := X
  show G _ _ _ _ _ _ _ _ _ _ _ _ _ _ _ _ _ 0 [some (.ref (ad 2)), some (.int x1), some (.int x2), none] [] w
  unfold f_X5_askHolder at hf
  refine g_iload_n X (i := 1) dX5_askHolder_0 rfl rfl ?_
  refine g_iconst X dX5_askHolder_1 (v := 4) (by decide) ?_
  obtain ⟨o1, h2, hf⟩ := hfb hf
  refine g_Ni X (As := [.int x1, .int 4]) (rest := []) (c_X6_isIn (wf := (wS ad cI)) h2) dX5_askHolder_2 ml_X5_33 yv_X6_isIn rfl rfl ⟨Nat.le_of_ble_eq_true rfl, Nat.le_of_ble_eq_true rfl⟩ ⟨rfl, rfl⟩ (Nat.le_of_ble_eq_true rfl) ⟨Nat.le_of_ble_eq_true rfl, Nat.le_of_ble_eq_true rfl⟩ ?_
  refine g_if_eq X dX5_askHolder_5 (tgt := 16) (by decide) hf (fun c3 hf => ?_) (fun c3 hf => ?_)
  · refine g_bipush X dX5_askHolder_16 (v := (-11)) (by decide) ?_
    exact g_iret X hr dX5_askHolder_18 hf
  · refine g_iload_n X (i := 2) dX5_askHolder_8 rfl rfl ?_
    refine g_iconst X dX5_askHolder_9 (v := 4) (by decide) ?_
    obtain ⟨o4, h5, hf⟩ := hfb hf
    refine g_Ni X (As := [.int x2, .int 4]) (rest := []) (c_X6_isIn (wf := (wS ad cI)) h5) dX5_askHolder_10 ml_X5_33 yv_X6_isIn rfl rfl ⟨Nat.le_of_ble_eq_true rfl, Nat.le_of_ble_eq_true rfl⟩ ⟨rfl, rfl⟩ (Nat.le_of_ble_eq_true rfl) ⟨Nat.le_of_ble_eq_true rfl, Nat.le_of_ble_eq_true rfl⟩ ?_
    refine g_if_ne X dX5_askHolder_13 (tgt := 19) (by decide) hf (fun c6 hf => ?_) (fun c6 hf => ?_)
    · refine g_bipush X dX5_askHolder_16 (v := (-11)) (by decide) ?_
      exact g_iret X hr dX5_askHolder_18 hf
    · refine g_aload_n X (i := 0) dX5_askHolder_19 rfl rfl ?_
      refine g_get X (q0 := 2) (v := .ref (ad 3)) 0 dX5_askHolder_20 gC_X5 rfl rfl (by decide) fl_X5_12 rfl rfl ?_
      refine g_iload_n X (i := 1) dX5_askHolder_23 rfl rfl ?_
      obtain ⟨o7, h8, hf⟩ := hfb hf
      refine g_Vi X (q0 := 3) (As := [.int x1]) (rest := []) (c_X1_holderAt h8) dX5_askHolder_24 ml_X5_87 yv_X1_holderAt rfl rfl rfl rfl ⟨Nat.le_of_ble_eq_true rfl, Nat.le_of_ble_eq_true rfl⟩ ⟨rfl, rfl⟩ (Nat.le_of_ble_eq_true rfl) ⟨Nat.le_of_ble_eq_true rfl, Nat.le_of_ble_eq_true rfl⟩ ?_
      refine g_istore_n X (i := 3) dX5_askHolder_27 rfl (by decide) rfl ?_
      refine g_iload_n X (i := 3) dX5_askHolder_28 rfl rfl ?_
      refine g_iconst X dX5_askHolder_29 (v := (-1)) (by decide) ?_
      refine g_icmp_ne X dX5_askHolder_30 (tgt := 36) (by decide) hf (fun c9 hf => ?_) (fun c9 hf => ?_)
      · refine g_bipush X dX5_askHolder_33 (v := (-14)) (by decide) ?_
        exact g_iret X hr dX5_askHolder_35 hf
      · refine g_aload_n X (i := 0) dX5_askHolder_36 rfl rfl ?_
        refine g_iload_n X (i := 2) dX5_askHolder_37 rfl rfl ?_
        refine g_iload_n X (i := 3) dX5_askHolder_38 rfl rfl ?_
        obtain ⟨o10, h11, hf⟩ := hfb hf
        refine g_Vv X (q0 := 2) (As := [.int x2, .int o7.1]) (rest := []) (c_X5_referRoot h11) dX5_askHolder_39 ml_X5_51 yv_X5_referRoot rfl rfl rfl rfl ⟨Nat.le_of_ble_eq_true rfl, Nat.le_of_ble_eq_true rfl⟩ ⟨rfl, rfl⟩ (Nat.le_of_ble_eq_true rfl) ⟨Nat.le_of_ble_eq_true rfl, Nat.le_of_ble_eq_true rfl⟩ ?_
        refine g_aload_n X (i := 0) dX5_askHolder_42 rfl rfl ?_
        refine g_iload_n X (i := 3) dX5_askHolder_43 rfl rfl ?_
        obtain ⟨o12, h13, hf⟩ := hfb hf
        refine g_Vv X (q0 := 2) (As := [.int o7.1]) (rest := []) (c_X5_shadeIfCareIsNeeded h13) dX5_askHolder_44 ml_X5_93 yv_X5_shadeIfCareIsNeeded rfl rfl rfl rfl ⟨Nat.le_of_ble_eq_true rfl, Nat.le_of_ble_eq_true rfl⟩ ⟨rfl, rfl⟩ (Nat.le_of_ble_eq_true rfl) ⟨Nat.le_of_ble_eq_true rfl, Nat.le_of_ble_eq_true rfl⟩ ?_
        refine g_iload_n X (i := 3) dX5_askHolder_47 rfl rfl ?_
        exact g_iret X hr dX5_askHolder_48 hf
def f_X5_wishFinish (x1 : Int32) (w : St) : Option (Int32 × St) := (f_X1_has x1 w).bind fun o1 => (if o1.1 = 0 then some ((-11), o1.2) else (f_X6_bit x1 o1.2).bind fun o4 => (f_X1_reachedByAll o4.2).bind fun o6 => (if ((o4.1 &&& o6.1) &&& ((o6.2.1 14) ^^^ (-1))) = 0 then some ((-12), o6.2) else (f_X6_bit x1 o6.2).bind fun o9 => (f_J6_bitCount_0f7a4 ((o6.2.1 14) ||| o9.1) (sR o9.2 14 ((o6.2.1 14) ||| o9.1))).bind fun o11 => some (o11.1, o11.2)))
set_option maxRecDepth 100000 in
set_option maxHeartbeats 4000000 in
theorem c_X5_wishFinish {l : Launch} {D : va_G} {cI : ClassId × ClassId} {A : Nat → Prop} {ad : Nat → Nat} {x1 : Int32} {w : St} {o : Int32 × St} (hf : f_X5_wishFinish x1 w = some o) : CTi l D cI A yX5_wishFinish cX5_wishFinish 2 (some .int) rm_X5_wishFinish [.ref (ad 2), .int x1] ((wS ad cI) w) o.1 ((wS ad cI) o.2)   := by
  refine CTi.of (by decide +kernel) rfl (Nat.le_of_ble_eq_true rfl) ?_
  intro p e s m args below meth c X hr
  have X : gX p s m args meth c cX5_wishFinish 2 RX5 D cI := X
  show G _ _ _ _ _ _ _ _ _ _ _ _ _ _ _ _ _ 0 [some (.ref (ad 2)), some (.int x1)] [] w
  unfold f_X5_wishFinish at hf
  refine g_aload_n X (i := 0) dX5_wishFinish_0 rfl rfl ?_
  refine g_get X (q0 := 2) (v := .ref (ad 3)) 0 dX5_wishFinish_1 gC_X5 rfl rfl (by decide) fl_X5_12 rfl rfl ?_
  refine g_iload_n X (i := 1) dX5_wishFinish_4 rfl rfl ?_
  obtain ⟨o1, h2, hf⟩ := hfb hf
  refine g_Vi X (q0 := 3) (As := [.int x1]) (rest := []) (c_X1_has h2) dX5_wishFinish_5 ml_X5_55 yv_X1_has rfl rfl rfl rfl ⟨Nat.le_of_ble_eq_true rfl, Nat.le_of_ble_eq_true rfl⟩ ⟨rfl, rfl⟩ (Nat.le_of_ble_eq_true rfl) ⟨Nat.le_of_ble_eq_true rfl, Nat.le_of_ble_eq_true rfl⟩ ?_
  refine g_if_ne X dX5_wishFinish_8 (tgt := 14) (by decide) hf (fun c3 hf => ?_) (fun c3 hf => ?_)
  · refine g_bipush X dX5_wishFinish_11 (v := (-11)) (by decide) ?_
    exact g_iret X hr dX5_wishFinish_13 hf
  · refine g_iload_n X (i := 1) dX5_wishFinish_14 rfl rfl ?_
    obtain ⟨o4, h5, hf⟩ := hfb hf
    refine g_Ni X (As := [.int x1]) (rest := []) (c_X6_bit (wf := (wS ad cI)) h5) dX5_wishFinish_15 ml_X5_62 yv_X6_bit rfl rfl ⟨Nat.le_of_ble_eq_true rfl, Nat.le_of_ble_eq_true rfl⟩ ⟨rfl, rfl⟩ (Nat.le_of_ble_eq_true rfl) ⟨Nat.le_of_ble_eq_true rfl, Nat.le_of_ble_eq_true rfl⟩ ?_
    refine g_aload_n X (i := 0) dX5_wishFinish_18 rfl rfl ?_
    refine g_get X (q0 := 2) (v := .ref (ad 3)) 0 dX5_wishFinish_19 gC_X5 rfl rfl (by decide) fl_X5_12 rfl rfl ?_
    obtain ⟨o6, h7, hf⟩ := hfb hf
    refine g_Vi X (q0 := 3) (As := []) (rest := [.int o4.1]) (c_X1_reachedByAll h7) dX5_wishFinish_22 ml_X5_66 yv_X1_reachedByAll rfl rfl rfl rfl ⟨Nat.le_of_ble_eq_true rfl, Nat.le_of_ble_eq_true rfl⟩ ⟨rfl, rfl⟩ (Nat.le_of_ble_eq_true rfl) ⟨Nat.le_of_ble_eq_true rfl, Nat.le_of_ble_eq_true rfl⟩ ?_
    refine g_iand X dX5_wishFinish_25 ?_
    refine g_aload_n X (i := 0) dX5_wishFinish_26 rfl rfl ?_
    refine g_get X (q0 := 2) (v := .ref (ad 3)) 0 dX5_wishFinish_27 gC_X5 rfl rfl (by decide) fl_X5_12 rfl rfl ?_
    refine g_get X (q0 := 3) (v := .int (o6.2.1 14)) 1 dX5_wishFinish_30 gC_X1 rfl rfl (by decide) fl_X5_96 rfl rfl ?_
    refine g_iconst X dX5_wishFinish_33 (v := (-1)) (by decide) ?_
    refine g_ixor X dX5_wishFinish_34 ?_
    refine g_iand X dX5_wishFinish_35 ?_
    refine g_if_ne X dX5_wishFinish_36 (tgt := 42) (by decide) hf (fun c8 hf => ?_) (fun c8 hf => ?_)
    · refine g_bipush X dX5_wishFinish_39 (v := (-12)) (by decide) ?_
      exact g_iret X hr dX5_wishFinish_41 hf
    · refine g_aload_n X (i := 0) dX5_wishFinish_42 rfl rfl ?_
      refine g_get X (q0 := 2) (v := .ref (ad 3)) 0 dX5_wishFinish_43 gC_X5 rfl rfl (by decide) fl_X5_12 rfl rfl ?_
      refine g_dup X dX5_wishFinish_46 rfl ?_
      refine g_get X (q0 := 3) (v := .int (o6.2.1 14)) 1 dX5_wishFinish_47 gC_X1 rfl rfl (by decide) fl_X5_96 rfl rfl ?_
      refine g_iload_n X (i := 1) dX5_wishFinish_50 rfl rfl ?_
      obtain ⟨o9, h10, hf⟩ := hfb hf
      refine g_Ni X (As := [.int x1]) (rest := [.int (o6.2.1 14), .ref (ad 3)]) (c_X6_bit (wf := (wS ad cI)) h10) dX5_wishFinish_51 ml_X5_62 yv_X6_bit rfl rfl ⟨Nat.le_of_ble_eq_true rfl, Nat.le_of_ble_eq_true rfl⟩ ⟨rfl, rfl⟩ (Nat.le_of_ble_eq_true rfl) ⟨Nat.le_of_ble_eq_true rfl, Nat.le_of_ble_eq_true rfl⟩ ?_
      refine g_ior X dX5_wishFinish_54 ?_
      refine g_put X (q0 := 3) 1 dX5_wishFinish_55 gC_X1 rfl rfl (by decide) fl_X5_96 rfl rfl rfl rfl (Nat.le_of_ble_eq_true rfl) (pwS_14 ad cI _ _) ?_
      refine g_aload_n X (i := 0) dX5_wishFinish_58 rfl rfl ?_
      refine g_get X (q0 := 2) (v := .ref (ad 3)) 0 dX5_wishFinish_59 gC_X5 rfl rfl (by decide) fl_X5_12 rfl rfl ?_
      refine g_get X (q0 := 3) (v := .int ((o6.2.1 14) ||| o9.1)) 1 dX5_wishFinish_62 gC_X1 rfl rfl (by decide) fl_X5_96 rfl rfl ?_
      obtain ⟨o11, h12, hf⟩ := hfb hf
      refine g_Si X (As := [.int ((o6.2.1 14) ||| o9.1)]) (rest := []) (c_J6_bitCount_0f7a4 (wf := (wS ad cI)) h12) dX5_wishFinish_65 ml_X5_99 yv_J6_bitCount_0f7a4 rfl rfl ⟨Nat.le_of_ble_eq_true rfl, Nat.le_of_ble_eq_true rfl⟩ ⟨rfl, rfl⟩ (Nat.le_of_ble_eq_true rfl) ⟨Nat.le_of_ble_eq_true rfl, Nat.le_of_ble_eq_true rfl⟩ ?_
      exact g_iret X hr dX5_wishFinish_68 hf
def f_X5_finishFirst (x1 : Int32) (w : St) : Option (Int32 × St) := (if x1 = (-1) then (f_X3_takeFirst_5 w).bind fun o2 => (if o2.1 = (-1) then some ((-12), o2.2) else (if x1 = (-1) then (f_X5_shadeIfCareIsNeeded o2.1 (sR o2.2 12 ((o2.2.1 12) + 1))).bind fun o6 => some (o2.1, o6.2) else (f_X5_referRoot x1 o2.1 (sR o2.2 12 ((o2.2.1 12) + 1))).bind fun o8 => (f_X5_shadeIfCareIsNeeded o2.1 o8.2).bind fun o10 => some (o2.1, o10.2))) else (f_X6_isIn x1 4 w).bind fun o12 => (if o12.1 = 0 then some ((-11), o12.2) else (f_X3_takeFirst_5 o12.2).bind fun o15 => (if o15.1 = (-1) then some ((-12), o15.2) else (if x1 = (-1) then (f_X5_shadeIfCareIsNeeded o15.1 (sR o15.2 12 ((o15.2.1 12) + 1))).bind fun o19 => some (o15.1, o19.2) else (f_X5_referRoot x1 o15.1 (sR o15.2 12 ((o15.2.1 12) + 1))).bind fun o21 => (f_X5_shadeIfCareIsNeeded o15.1 o21.2).bind fun o23 => some (o15.1, o23.2)))))
set_option maxRecDepth 100000 in
set_option maxHeartbeats 4000000 in
theorem c_X5_finishFirst {l : Launch} {D : va_G} {cI : ClassId × ClassId} {A : Nat → Prop} {ad : Nat → Nat} {x1 : Int32} {w : St} {o : Int32 × St} (hf : f_X5_finishFirst x1 w = some o) : CTi l D cI A yX5_finishFirst cX5_finishFirst 3 (some .int) rm_X5_finishFirst [.ref (ad 2), .int x1] ((wS ad cI) w) o.1 ((wS ad cI) o.2)   := by
  refine CTi.of (by decide +kernel) rfl (Nat.le_of_ble_eq_true rfl) ?_
  intro p e s m args below meth c X hr
  have X : gX p s m args meth c cX5_finishFirst 3 RX5 D cI := X
  show G _ _ _ _ _ _ _ _ _ _ _ _ _ _ _ _ _ 0 [some (.ref (ad 2)), some (.int x1), none] [] w
  unfold f_X5_finishFirst at hf
  refine g_iload_n X (i := 1) dX5_finishFirst_0 rfl rfl ?_
  refine g_iconst X dX5_finishFirst_1 (v := (-1)) (by decide) ?_
  refine g_icmp_eq X dX5_finishFirst_2 (tgt := 16) (by decide) hf (fun c1 hf => ?_) (fun c1 hf => ?_)
  · refine g_aload_n X (i := 0) dX5_finishFirst_16 rfl rfl ?_
    refine g_get X (q0 := 2) (v := .ref (ad 3)) 0 dX5_finishFirst_17 gC_X5 rfl rfl (by decide) fl_X5_12 rfl rfl ?_
    refine g_get X (q0 := 3) (v := .ref (ad 5)) 5 dX5_finishFirst_20 gC_X1 rfl rfl (by decide) fl_X5_104 rfl rfl ?_
    obtain ⟨o2, h3, hf⟩ := hfb hf
    refine g_Vi X (q0 := 5) (As := []) (rest := []) (c_X3_takeFirst_5 h3) dX5_finishFirst_23 ml_X5_108 yv_X3_takeFirst rfl rfl rfl rfl ⟨Nat.le_of_ble_eq_true rfl, Nat.le_of_ble_eq_true rfl⟩ ⟨rfl, rfl⟩ (Nat.le_of_ble_eq_true rfl) ⟨Nat.le_of_ble_eq_true rfl, Nat.le_of_ble_eq_true rfl⟩ ?_
    refine g_istore_n X (i := 2) dX5_finishFirst_26 rfl (by decide) rfl ?_
    refine g_iload_n X (i := 2) dX5_finishFirst_27 rfl rfl ?_
    refine g_iconst X dX5_finishFirst_28 (v := (-1)) (by decide) ?_
    refine g_icmp_ne X dX5_finishFirst_29 (tgt := 35) (by decide) hf (fun c4 hf => ?_) (fun c4 hf => ?_)
    · refine g_bipush X dX5_finishFirst_32 (v := (-12)) (by decide) ?_
      exact g_iret X hr dX5_finishFirst_34 hf
    · refine g_aload_n X (i := 0) dX5_finishFirst_35 rfl rfl ?_
      refine g_dup X dX5_finishFirst_36 rfl ?_
      refine g_get X (q0 := 2) (v := .int (o2.2.1 12)) 5 dX5_finishFirst_37 gC_X5 rfl rfl (by decide) fl_X5_113 rfl rfl ?_
      refine g_iconst X dX5_finishFirst_40 (v := 1) (by decide) ?_
      refine g_iadd X dX5_finishFirst_41 ?_
      refine g_put X (q0 := 2) 5 dX5_finishFirst_42 gC_X5 rfl rfl (by decide) fl_X5_113 rfl rfl rfl rfl (Nat.le_of_ble_eq_true rfl) (pwS_12 ad cI _ _) ?_
      refine g_iload_n X (i := 1) dX5_finishFirst_45 rfl rfl ?_
      refine g_iconst X dX5_finishFirst_46 (v := (-1)) (by decide) ?_
      refine g_icmp_eq X dX5_finishFirst_47 (tgt := 56) (by decide) hf (fun c5 hf => ?_) (fun c5 hf => ?_)
      · refine g_aload_n X (i := 0) dX5_finishFirst_56 rfl rfl ?_
        refine g_iload_n X (i := 2) dX5_finishFirst_57 rfl rfl ?_
        obtain ⟨o6, h7, hf⟩ := hfb hf
        refine g_Vv X (q0 := 2) (As := [.int o2.1]) (rest := []) (c_X5_shadeIfCareIsNeeded h7) dX5_finishFirst_58 ml_X5_93 yv_X5_shadeIfCareIsNeeded rfl rfl rfl rfl ⟨Nat.le_of_ble_eq_true rfl, Nat.le_of_ble_eq_true rfl⟩ ⟨rfl, rfl⟩ (Nat.le_of_ble_eq_true rfl) ⟨Nat.le_of_ble_eq_true rfl, Nat.le_of_ble_eq_true rfl⟩ ?_
        refine g_iload_n X (i := 2) dX5_finishFirst_61 rfl rfl ?_
        exact g_iret X hr dX5_finishFirst_62 hf
      · refine g_aload_n X (i := 0) dX5_finishFirst_50 rfl rfl ?_
        refine g_iload_n X (i := 1) dX5_finishFirst_51 rfl rfl ?_
        refine g_iload_n X (i := 2) dX5_finishFirst_52 rfl rfl ?_
        obtain ⟨o8, h9, hf⟩ := hfb hf
        refine g_Vv X (q0 := 2) (As := [.int x1, .int o2.1]) (rest := []) (c_X5_referRoot h9) dX5_finishFirst_53 ml_X5_51 yv_X5_referRoot rfl rfl rfl rfl ⟨Nat.le_of_ble_eq_true rfl, Nat.le_of_ble_eq_true rfl⟩ ⟨rfl, rfl⟩ (Nat.le_of_ble_eq_true rfl) ⟨Nat.le_of_ble_eq_true rfl, Nat.le_of_ble_eq_true rfl⟩ ?_
        refine g_aload_n X (i := 0) dX5_finishFirst_56 rfl rfl ?_
        refine g_iload_n X (i := 2) dX5_finishFirst_57 rfl rfl ?_
        obtain ⟨o10, h11, hf⟩ := hfb hf
        refine g_Vv X (q0 := 2) (As := [.int o2.1]) (rest := []) (c_X5_shadeIfCareIsNeeded h11) dX5_finishFirst_58 ml_X5_93 yv_X5_shadeIfCareIsNeeded rfl rfl rfl rfl ⟨Nat.le_of_ble_eq_true rfl, Nat.le_of_ble_eq_true rfl⟩ ⟨rfl, rfl⟩ (Nat.le_of_ble_eq_true rfl) ⟨Nat.le_of_ble_eq_true rfl, Nat.le_of_ble_eq_true rfl⟩ ?_
        refine g_iload_n X (i := 2) dX5_finishFirst_61 rfl rfl ?_
        exact g_iret X hr dX5_finishFirst_62 hf
  · refine g_iload_n X (i := 1) dX5_finishFirst_5 rfl rfl ?_
    refine g_iconst X dX5_finishFirst_6 (v := 4) (by decide) ?_
    obtain ⟨o12, h13, hf⟩ := hfb hf
    refine g_Ni X (As := [.int x1, .int 4]) (rest := []) (c_X6_isIn (wf := (wS ad cI)) h13) dX5_finishFirst_7 ml_X5_33 yv_X6_isIn rfl rfl ⟨Nat.le_of_ble_eq_true rfl, Nat.le_of_ble_eq_true rfl⟩ ⟨rfl, rfl⟩ (Nat.le_of_ble_eq_true rfl) ⟨Nat.le_of_ble_eq_true rfl, Nat.le_of_ble_eq_true rfl⟩ ?_
    refine g_if_ne X dX5_finishFirst_10 (tgt := 16) (by decide) hf (fun c14 hf => ?_) (fun c14 hf => ?_)
    · refine g_bipush X dX5_finishFirst_13 (v := (-11)) (by decide) ?_
      exact g_iret X hr dX5_finishFirst_15 hf
    · refine g_aload_n X (i := 0) dX5_finishFirst_16 rfl rfl ?_
      refine g_get X (q0 := 2) (v := .ref (ad 3)) 0 dX5_finishFirst_17 gC_X5 rfl rfl (by decide) fl_X5_12 rfl rfl ?_
      refine g_get X (q0 := 3) (v := .ref (ad 5)) 5 dX5_finishFirst_20 gC_X1 rfl rfl (by decide) fl_X5_104 rfl rfl ?_
      obtain ⟨o15, h16, hf⟩ := hfb hf
      refine g_Vi X (q0 := 5) (As := []) (rest := []) (c_X3_takeFirst_5 h16) dX5_finishFirst_23 ml_X5_108 yv_X3_takeFirst rfl rfl rfl rfl ⟨Nat.le_of_ble_eq_true rfl, Nat.le_of_ble_eq_true rfl⟩ ⟨rfl, rfl⟩ (Nat.le_of_ble_eq_true rfl) ⟨Nat.le_of_ble_eq_true rfl, Nat.le_of_ble_eq_true rfl⟩ ?_
      refine g_istore_n X (i := 2) dX5_finishFirst_26 rfl (by decide) rfl ?_
      refine g_iload_n X (i := 2) dX5_finishFirst_27 rfl rfl ?_
      refine g_iconst X dX5_finishFirst_28 (v := (-1)) (by decide) ?_
      refine g_icmp_ne X dX5_finishFirst_29 (tgt := 35) (by decide) hf (fun c17 hf => ?_) (fun c17 hf => ?_)
      · refine g_bipush X dX5_finishFirst_32 (v := (-12)) (by decide) ?_
        exact g_iret X hr dX5_finishFirst_34 hf
      · refine g_aload_n X (i := 0) dX5_finishFirst_35 rfl rfl ?_
        refine g_dup X dX5_finishFirst_36 rfl ?_
        refine g_get X (q0 := 2) (v := .int (o15.2.1 12)) 5 dX5_finishFirst_37 gC_X5 rfl rfl (by decide) fl_X5_113 rfl rfl ?_
        refine g_iconst X dX5_finishFirst_40 (v := 1) (by decide) ?_
        refine g_iadd X dX5_finishFirst_41 ?_
        refine g_put X (q0 := 2) 5 dX5_finishFirst_42 gC_X5 rfl rfl (by decide) fl_X5_113 rfl rfl rfl rfl (Nat.le_of_ble_eq_true rfl) (pwS_12 ad cI _ _) ?_
        refine g_iload_n X (i := 1) dX5_finishFirst_45 rfl rfl ?_
        refine g_iconst X dX5_finishFirst_46 (v := (-1)) (by decide) ?_
        refine g_icmp_eq X dX5_finishFirst_47 (tgt := 56) (by decide) hf (fun c18 hf => ?_) (fun c18 hf => ?_)
        · refine g_aload_n X (i := 0) dX5_finishFirst_56 rfl rfl ?_
          refine g_iload_n X (i := 2) dX5_finishFirst_57 rfl rfl ?_
          obtain ⟨o19, h20, hf⟩ := hfb hf
          refine g_Vv X (q0 := 2) (As := [.int o15.1]) (rest := []) (c_X5_shadeIfCareIsNeeded h20) dX5_finishFirst_58 ml_X5_93 yv_X5_shadeIfCareIsNeeded rfl rfl rfl rfl ⟨Nat.le_of_ble_eq_true rfl, Nat.le_of_ble_eq_true rfl⟩ ⟨rfl, rfl⟩ (Nat.le_of_ble_eq_true rfl) ⟨Nat.le_of_ble_eq_true rfl, Nat.le_of_ble_eq_true rfl⟩ ?_
          refine g_iload_n X (i := 2) dX5_finishFirst_61 rfl rfl ?_
          exact g_iret X hr dX5_finishFirst_62 hf
        · refine g_aload_n X (i := 0) dX5_finishFirst_50 rfl rfl ?_
          refine g_iload_n X (i := 1) dX5_finishFirst_51 rfl rfl ?_
          refine g_iload_n X (i := 2) dX5_finishFirst_52 rfl rfl ?_
          obtain ⟨o21, h22, hf⟩ := hfb hf
          refine g_Vv X (q0 := 2) (As := [.int x1, .int o15.1]) (rest := []) (c_X5_referRoot h22) dX5_finishFirst_53 ml_X5_51 yv_X5_referRoot rfl rfl rfl rfl ⟨Nat.le_of_ble_eq_true rfl, Nat.le_of_ble_eq_true rfl⟩ ⟨rfl, rfl⟩ (Nat.le_of_ble_eq_true rfl) ⟨Nat.le_of_ble_eq_true rfl, Nat.le_of_ble_eq_true rfl⟩ ?_
          refine g_aload_n X (i := 0) dX5_finishFirst_56 rfl rfl ?_
          refine g_iload_n X (i := 2) dX5_finishFirst_57 rfl rfl ?_
          obtain ⟨o23, h24, hf⟩ := hfb hf
          refine g_Vv X (q0 := 2) (As := [.int o15.1]) (rest := []) (c_X5_shadeIfCareIsNeeded h24) dX5_finishFirst_58 ml_X5_93 yv_X5_shadeIfCareIsNeeded rfl rfl rfl rfl ⟨Nat.le_of_ble_eq_true rfl, Nat.le_of_ble_eq_true rfl⟩ ⟨rfl, rfl⟩ (Nat.le_of_ble_eq_true rfl) ⟨Nat.le_of_ble_eq_true rfl, Nat.le_of_ble_eq_true rfl⟩ ?_
          refine g_iload_n X (i := 2) dX5_finishFirst_61 rfl rfl ?_
          exact g_iret X hr dX5_finishFirst_62 hf
def f_X5_beginSearch (w : St) : Option (Int32 × St) := (f_X4_isThere w).bind fun o1 => (if o1.1 = 0 then (f_X4_open o1.2).bind fun o4 => some (o4.2.1 24, o4.2) else some ((-12), o1.2))
set_option maxRecDepth 100000 in
set_option maxHeartbeats 4000000 in
theorem c_X5_beginSearch {l : Launch} {D : va_G} {cI : ClassId × ClassId} {A : Nat → Prop} {ad : Nat → Nat} {w : St} {o : Int32 × St} (hf : f_X5_beginSearch w = some o) : CTi l D cI A yX5_beginSearch cX5_beginSearch 1 (some .int) rm_X5_beginSearch [.ref (ad 2)] ((wS ad cI) w) o.1 ((wS ad cI) o.2)   := by
  refine CTi.of (by decide +kernel) rfl (Nat.le_of_ble_eq_true rfl) ?_
  intro p e s m args below meth c X hr
  have X : gX p s m args meth c cX5_beginSearch 1 RX5 D cI := X
  show G _ _ _ _ _ _ _ _ _ _ _ _ _ _ _ _ _ 0 [some (.ref (ad 2))] [] w
  unfold f_X5_beginSearch at hf
  refine g_aload_n X (i := 0) dX5_beginSearch_0 rfl rfl ?_
  refine g_get X (q0 := 2) (v := .ref (ad 4)) 1 dX5_beginSearch_1 gC_X5 rfl rfl (by decide) fl_X5_21 rfl rfl ?_
  obtain ⟨o1, h2, hf⟩ := hfb hf
  refine g_Vi X (q0 := 4) (As := []) (rest := []) (c_X4_isThere h2) dX5_beginSearch_4 ml_X5_126 yv_X4_isThere rfl rfl rfl rfl ⟨Nat.le_of_ble_eq_true rfl, Nat.le_of_ble_eq_true rfl⟩ ⟨rfl, rfl⟩ (Nat.le_of_ble_eq_true rfl) ⟨Nat.le_of_ble_eq_true rfl, Nat.le_of_ble_eq_true rfl⟩ ?_
  refine g_if_eq X dX5_beginSearch_7 (tgt := 13) (by decide) hf (fun c3 hf => ?_) (fun c3 hf => ?_)
  · refine g_aload_n X (i := 0) dX5_beginSearch_13 rfl rfl ?_
    refine g_get X (q0 := 2) (v := .ref (ad 4)) 1 dX5_beginSearch_14 gC_X5 rfl rfl (by decide) fl_X5_21 rfl rfl ?_
    refine g_aload_n X (i := 0) dX5_beginSearch_17 rfl rfl ?_
    refine g_get X (q0 := 2) (v := .ref (ad 3)) 0 dX5_beginSearch_18 gC_X5 rfl rfl (by decide) fl_X5_12 rfl rfl ?_
    obtain ⟨o4, h5, hf⟩ := hfb hf
    refine g_Vv X (q0 := 4) (As := [.ref (ad 3)]) (rest := []) (c_X4_open h5) dX5_beginSearch_21 ml_X5_129 yv_X4_open rfl rfl rfl rfl ⟨Nat.le_of_ble_eq_true rfl, Nat.le_of_ble_eq_true rfl⟩ ⟨rfl, rfl⟩ (Nat.le_of_ble_eq_true rfl) ⟨Nat.le_of_ble_eq_true rfl, Nat.le_of_ble_eq_true rfl⟩ ?_
    refine g_aload_n X (i := 0) dX5_beginSearch_24 rfl rfl ?_
    refine g_get X (q0 := 2) (v := .ref (ad 4)) 1 dX5_beginSearch_25 gC_X5 rfl rfl (by decide) fl_X5_21 rfl rfl ?_
    refine g_get X (q0 := 4) (v := .ref (ad 6)) 3 dX5_beginSearch_28 gC_X4 rfl rfl (by decide) fl_X5_133 rfl rfl ?_
    refine g_get X (q0 := 6) (v := .int (o4.2.1 24)) 1 dX5_beginSearch_31 gC_X3 rfl rfl (by decide) fl_X5_136 rfl rfl ?_
    exact g_iret X hr dX5_beginSearch_34 hf
  · refine g_bipush X dX5_beginSearch_10 (v := (-12)) (by decide) ?_
    exact g_iret X hr dX5_beginSearch_12 hf
def f_X5_doSteps_L37 : Nat → Int32 → Int32 → Int32 → St → Option (St)
  | 0, _, _, _, _ => none
  | n + 1, x1, x2, x3, w => (if x3 < x1 then (f_X4_isThere w).bind fun o7 => (if o7.1 = 0 then some (o7.2) else (f_X4_advance o7.2).bind fun o10 => f_X5_doSteps_L37 n x1 x2 (x3 + 1) o10.2) else some (w))
def f_X5_doSteps (x1 : Int32) (w : St) : Option (Int32 × St) := (if x1 < 1 then some ((-11), w) else (if (99 : Int32) < x1 then some ((-11), w) else (f_X4_isThere w).bind fun o3 => (if o3.1 = 0 then some ((-12), o3.2) else (f_X5_doSteps_L37 BIG x1 (o3.2.1 22) 0 o3.2).bind fun o12 => some ((o12.1 22) - (o3.2.1 22), o12))))
set_option maxRecDepth 100000 in
set_option maxHeartbeats 4000000 in
theorem gl_X5_doSteps_L37 {p : Program} {l : Launch} {e : Env} {s : State} {m : MethodId} {args : Array Value} {below : List Frame} {meth : Method} {c : Code} {D : va_G} {A : Nat → Prop} {cI : ClassId × ClassId} {ad : Nat → Nat} {Q : State → Prop} {o : St} (X : gX p s m args meth c cX5_doSteps 4 RX5 D cI) (n : Nat) : ∀ {x1 x2 x3 : Int32} {w : St}, f_X5_doSteps_L37 n x1 x2 x3 w = some o → G p l e rm_X5_doSteps s m args below meth c D A 4 Q (wS ad cI) 0 0 69 [some (.ref (ad 2)), none, some (.int x2), none] [] o → G p l e rm_X5_doSteps s m args below meth c D A 4 Q (wS ad cI) 0 0 37 [some (.ref (ad 2)), some (.int x1), some (.int x2), some (.int x3)] [] w := by
  induction n with
  | zero => intro x1 x2 x3 w hf; cases hf
  | succ n ih =>
    intro x1 x2 x3 w hf k
    rw [f_X5_doSteps_L37] at hf
    refine g_iload_n X (i := 3) dX5_doSteps_37 rfl rfl ?_
    refine g_iload_n X (i := 1) dX5_doSteps_38 rfl rfl ?_
    refine g_icmp_ge X dX5_doSteps_39 (tgt := 69) (by decide) hf (fun c6 hf => ?_) (fun c6 hf => ?_)
    · refine g_aload_n X (i := 0) dX5_doSteps_42 rfl rfl ?_
      refine g_get X (q0 := 2) (v := .ref (ad 4)) 1 dX5_doSteps_43 gC_X5 rfl rfl (by decide) fl_X5_21 rfl rfl ?_
      obtain ⟨o7, h8, hf⟩ := hfb hf
      refine g_Vi X (q0 := 4) (As := []) (rest := []) (c_X4_isThere h8) dX5_doSteps_46 ml_X5_126 yv_X4_isThere rfl rfl rfl rfl ⟨Nat.le_of_ble_eq_true rfl, Nat.le_of_ble_eq_true rfl⟩ ⟨rfl, rfl⟩ (Nat.le_of_ble_eq_true rfl) ⟨Nat.le_of_ble_eq_true rfl, Nat.le_of_ble_eq_true rfl⟩ ?_
      refine g_if_eq X dX5_doSteps_49 (tgt := 69) (by decide) hf (fun c9 hf => ?_) (fun c9 hf => ?_)
      · obtain rfl := Option.some.inj hf
        refine g_sub (losub (lo' := [some (.ref (ad 2)), none, some (.int x2), none]) ⟨rfl, rfl, trivial⟩) ?_
        exact k
      · refine g_aload_n X (i := 0) dX5_doSteps_52 rfl rfl ?_
        refine g_get X (q0 := 2) (v := .ref (ad 4)) 1 dX5_doSteps_53 gC_X5 rfl rfl (by decide) fl_X5_21 rfl rfl ?_
        refine g_aload_n X (i := 0) dX5_doSteps_56 rfl rfl ?_
        refine g_get X (q0 := 2) (v := .ref (ad 3)) 0 dX5_doSteps_57 gC_X5 rfl rfl (by decide) fl_X5_12 rfl rfl ?_
        obtain ⟨o10, h11, hf⟩ := hfb hf
        refine g_Vv X (q0 := 4) (As := [.ref (ad 3)]) (rest := []) (c_X4_advance h11) dX5_doSteps_60 ml_X5_142 yv_X4_advance rfl rfl rfl rfl ⟨Nat.le_of_ble_eq_true rfl, Nat.le_of_ble_eq_true rfl⟩ ⟨rfl, rfl⟩ (Nat.le_of_ble_eq_true rfl) ⟨Nat.le_of_ble_eq_true rfl, Nat.le_of_ble_eq_true rfl⟩ ?_
        refine g_iinc X (i := 3) (v := 1) dX5_doSteps_63 rfl (by decide) (by decide) rfl ?_
        refine g_goto X dX5_doSteps_66 (tgt := 37) (by decide) ?_
        exact ih hf k
    · obtain rfl := Option.some.inj hf
      refine g_sub (losub (lo' := [some (.ref (ad 2)), none, some (.int x2), none]) ⟨rfl, rfl, trivial⟩) ?_
      exact k
set_option maxRecDepth 100000 in
set_option maxHeartbeats 4000000 in
theorem c_X5_doSteps {l : Launch} {D : va_G} {cI : ClassId × ClassId} {A : Nat → Prop} {ad : Nat → Nat} {x1 : Int32} {w : St} {o : Int32 × St} (hf : f_X5_doSteps x1 w = some o) : CTi l D cI A yX5_doSteps cX5_doSteps 4 (some .int) rm_X5_doSteps [.ref (ad 2), .int x1] ((wS ad cI) w) o.1 ((wS ad cI) o.2)   := by
  refine CTi.of (by decide +kernel) rfl (Nat.le_of_ble_eq_true rfl) ?_
  intro p e s m args below meth c X hr
  have X : gX p s m args meth c cX5_doSteps 4 RX5 D cI := X
  show G _ _ _ _ _ _ _ _ _ _ _ _ _ _ _ _ _ 0 [some (.ref (ad 2)), some (.int x1), none, none] [] w
  unfold f_X5_doSteps at hf
  refine g_iload_n X (i := 1) dX5_doSteps_0 rfl rfl ?_
  refine g_iconst X dX5_doSteps_1 (v := 1) (by decide) ?_
  refine g_icmp_lt X dX5_doSteps_2 (tgt := 11) (by decide) hf (fun c1 hf => ?_) (fun c1 hf => ?_)
  · refine g_bipush X dX5_doSteps_11 (v := (-11)) (by decide) ?_
    exact g_iret X hr dX5_doSteps_13 hf
  · refine g_iload_n X (i := 1) dX5_doSteps_5 rfl rfl ?_
    refine g_bipush X dX5_doSteps_6 (v := 99) (by decide) ?_
    refine g_icmp_le X dX5_doSteps_8 (tgt := 14) (by decide) hf (fun c2 hf => ?_) (fun c2 hf => ?_)
    · refine g_bipush X dX5_doSteps_11 (v := (-11)) (by decide) ?_
      exact g_iret X hr dX5_doSteps_13 hf
    · refine g_aload_n X (i := 0) dX5_doSteps_14 rfl rfl ?_
      refine g_get X (q0 := 2) (v := .ref (ad 4)) 1 dX5_doSteps_15 gC_X5 rfl rfl (by decide) fl_X5_21 rfl rfl ?_
      obtain ⟨o3, h4, hf⟩ := hfb hf
      refine g_Vi X (q0 := 4) (As := []) (rest := []) (c_X4_isThere h4) dX5_doSteps_18 ml_X5_126 yv_X4_isThere rfl rfl rfl rfl ⟨Nat.le_of_ble_eq_true rfl, Nat.le_of_ble_eq_true rfl⟩ ⟨rfl, rfl⟩ (Nat.le_of_ble_eq_true rfl) ⟨Nat.le_of_ble_eq_true rfl, Nat.le_of_ble_eq_true rfl⟩ ?_
      refine g_if_ne X dX5_doSteps_21 (tgt := 27) (by decide) hf (fun c5 hf => ?_) (fun c5 hf => ?_)
      · refine g_bipush X dX5_doSteps_24 (v := (-12)) (by decide) ?_
        exact g_iret X hr dX5_doSteps_26 hf
      · refine g_aload_n X (i := 0) dX5_doSteps_27 rfl rfl ?_
        refine g_get X (q0 := 2) (v := .ref (ad 4)) 1 dX5_doSteps_28 gC_X5 rfl rfl (by decide) fl_X5_21 rfl rfl ?_
        refine g_get X (q0 := 4) (v := .int (o3.2.1 22)) 8 dX5_doSteps_31 gC_X4 rfl rfl (by decide) fl_X5_139 rfl rfl ?_
        refine g_istore_n X (i := 2) dX5_doSteps_34 rfl (by decide) rfl ?_
        refine g_iconst X dX5_doSteps_35 (v := 0) (by decide) ?_
        refine g_istore_n X (i := 3) dX5_doSteps_36 rfl (by decide) rfl ?_
        obtain ⟨o12, h13, hf⟩ := hfb hf
        refine gl_X5_doSteps_L37 X BIG h13 ?_
        refine g_aload_n X (i := 0) dX5_doSteps_69 rfl rfl ?_
        refine g_get X (q0 := 2) (v := .ref (ad 4)) 1 dX5_doSteps_70 gC_X5 rfl rfl (by decide) fl_X5_21 rfl rfl ?_
        refine g_get X (q0 := 4) (v := .int (o12.1 22)) 8 dX5_doSteps_73 gC_X4 rfl rfl (by decide) fl_X5_139 rfl rfl ?_
        refine g_iload_n X (i := 2) dX5_doSteps_76 rfl rfl ?_
        refine g_isub X dX5_doSteps_77 ?_
        exact g_iret X hr dX5_doSteps_78 hf
def f_X5_doAllSteps_L23 : Nat → Int32 → St → Option (Int32 × St)
  | 0, _, _ => none
  | n + 1, x1, w => (if x1 < 10000 then (f_X4_isThere w).bind fun o7 => (if o7.1 = 0 then some (x1, o7.2) else (f_X4_advance o7.2).bind fun o10 => f_X5_doAllSteps_L23 n (x1 + 1) o10.2) else some (x1, w))
def f_X5_doAllSteps (w : St) : Option (Int32 × St) := (f_X4_isThere w).bind fun o1 => (if o1.1 = 0 then (f_X4_open o1.2).bind fun o4 => (f_X5_doAllSteps_L23 BIG 0 o4.2).bind fun o12 => some (o12.1, o12.2) else (f_X5_doAllSteps_L23 BIG 0 o1.2).bind fun o14 => some (o14.1, o14.2))
set_option maxRecDepth 100000 in
set_option maxHeartbeats 4000000 in
theorem gl_X5_doAllSteps_L23 {p : Program} {l : Launch} {e : Env} {s : State} {m : MethodId} {args : Array Value} {below : List Frame} {meth : Method} {c : Code} {D : va_G} {A : Nat → Prop} {cI : ClassId × ClassId} {ad : Nat → Nat} {Q : State → Prop} {o : Int32 × St} (X : gX p s m args meth c cX5_doAllSteps 2 RX5 D cI) (n : Nat) : ∀ {x1 : Int32} {w : St}, f_X5_doAllSteps_L23 n x1 w = some o → G p l e rm_X5_doAllSteps s m args below meth c D A 2 Q (wS ad cI) 0 0 57 [none, some (.int o.1)] [] o.2 → G p l e rm_X5_doAllSteps s m args below meth c D A 2 Q (wS ad cI) 0 0 23 [some (.ref (ad 2)), some (.int x1)] [] w := by
  induction n with
  | zero => intro x1 w hf; cases hf
  | succ n ih =>
    intro x1 w hf k
    rw [f_X5_doAllSteps_L23] at hf
    refine g_iload_n X (i := 1) dX5_doAllSteps_23 rfl rfl ?_
    refine g_sipush X dX5_doAllSteps_24 (v := 10000) (by decide) ?_
    refine g_icmp_ge X dX5_doAllSteps_27 (tgt := 57) (by decide) hf (fun c6 hf => ?_) (fun c6 hf => ?_)
    · refine g_aload_n X (i := 0) dX5_doAllSteps_30 rfl rfl ?_
      refine g_get X (q0 := 2) (v := .ref (ad 4)) 1 dX5_doAllSteps_31 gC_X5 rfl rfl (by decide) fl_X5_21 rfl rfl ?_
      obtain ⟨o7, h8, hf⟩ := hfb hf
      refine g_Vi X (q0 := 4) (As := []) (rest := []) (c_X4_isThere h8) dX5_doAllSteps_34 ml_X5_126 yv_X4_isThere rfl rfl rfl rfl ⟨Nat.le_of_ble_eq_true rfl, Nat.le_of_ble_eq_true rfl⟩ ⟨rfl, rfl⟩ (Nat.le_of_ble_eq_true rfl) ⟨Nat.le_of_ble_eq_true rfl, Nat.le_of_ble_eq_true rfl⟩ ?_
      refine g_if_eq X dX5_doAllSteps_37 (tgt := 57) (by decide) hf (fun c9 hf => ?_) (fun c9 hf => ?_)
      · obtain rfl := Option.some.inj hf
        refine g_sub (losub (lo' := [none, some (.int x1)]) ⟨rfl, trivial⟩) ?_
        exact k
      · refine g_aload_n X (i := 0) dX5_doAllSteps_40 rfl rfl ?_
        refine g_get X (q0 := 2) (v := .ref (ad 4)) 1 dX5_doAllSteps_41 gC_X5 rfl rfl (by decide) fl_X5_21 rfl rfl ?_
        refine g_aload_n X (i := 0) dX5_doAllSteps_44 rfl rfl ?_
        refine g_get X (q0 := 2) (v := .ref (ad 3)) 0 dX5_doAllSteps_45 gC_X5 rfl rfl (by decide) fl_X5_12 rfl rfl ?_
        obtain ⟨o10, h11, hf⟩ := hfb hf
        refine g_Vv X (q0 := 4) (As := [.ref (ad 3)]) (rest := []) (c_X4_advance h11) dX5_doAllSteps_48 ml_X5_142 yv_X4_advance rfl rfl rfl rfl ⟨Nat.le_of_ble_eq_true rfl, Nat.le_of_ble_eq_true rfl⟩ ⟨rfl, rfl⟩ (Nat.le_of_ble_eq_true rfl) ⟨Nat.le_of_ble_eq_true rfl, Nat.le_of_ble_eq_true rfl⟩ ?_
        refine g_iinc X (i := 1) (v := 1) dX5_doAllSteps_51 rfl (by decide) (by decide) rfl ?_
        refine g_goto X dX5_doAllSteps_54 (tgt := 23) (by decide) ?_
        exact ih hf k
    · obtain rfl := Option.some.inj hf
      refine g_sub (losub (lo' := [none, some (.int x1)]) ⟨rfl, trivial⟩) ?_
      exact k
set_option maxRecDepth 100000 in
set_option maxHeartbeats 4000000 in
theorem c_X5_doAllSteps {l : Launch} {D : va_G} {cI : ClassId × ClassId} {A : Nat → Prop} {ad : Nat → Nat} {w : St} {o : Int32 × St} (hf : f_X5_doAllSteps w = some o) : CTi l D cI A yX5_doAllSteps cX5_doAllSteps 2 (some .int) rm_X5_doAllSteps [.ref (ad 2)] ((wS ad cI) w) o.1 ((wS ad cI) o.2)   := by
  refine CTi.of (by decide +kernel) rfl (Nat.le_of_ble_eq_true rfl) ?_
  intro p e s m args below meth c X hr
  have X : gX p s m args meth c cX5_doAllSteps 2 RX5 D cI := X
  show G _ _ _ _ _ _ _ _ _ _ _ _ _ _ _ _ _ 0 [some (.ref (ad 2)), none] [] w
  unfold f_X5_doAllSteps at hf
  refine g_aload_n X (i := 0) dX5_doAllSteps_0 rfl rfl ?_
  refine g_get X (q0 := 2) (v := .ref (ad 4)) 1 dX5_doAllSteps_1 gC_X5 rfl rfl (by decide) fl_X5_21 rfl rfl ?_
  obtain ⟨o1, h2, hf⟩ := hfb hf
  refine g_Vi X (q0 := 4) (As := []) (rest := []) (c_X4_isThere h2) dX5_doAllSteps_4 ml_X5_126 yv_X4_isThere rfl rfl rfl rfl ⟨Nat.le_of_ble_eq_true rfl, Nat.le_of_ble_eq_true rfl⟩ ⟨rfl, rfl⟩ (Nat.le_of_ble_eq_true rfl) ⟨Nat.le_of_ble_eq_true rfl, Nat.le_of_ble_eq_true rfl⟩ ?_
  refine g_if_ne X dX5_doAllSteps_7 (tgt := 21) (by decide) hf (fun c3 hf => ?_) (fun c3 hf => ?_)
  · refine g_aload_n X (i := 0) dX5_doAllSteps_10 rfl rfl ?_
    refine g_get X (q0 := 2) (v := .ref (ad 4)) 1 dX5_doAllSteps_11 gC_X5 rfl rfl (by decide) fl_X5_21 rfl rfl ?_
    refine g_aload_n X (i := 0) dX5_doAllSteps_14 rfl rfl ?_
    refine g_get X (q0 := 2) (v := .ref (ad 3)) 0 dX5_doAllSteps_15 gC_X5 rfl rfl (by decide) fl_X5_12 rfl rfl ?_
    obtain ⟨o4, h5, hf⟩ := hfb hf
    refine g_Vv X (q0 := 4) (As := [.ref (ad 3)]) (rest := []) (c_X4_open h5) dX5_doAllSteps_18 ml_X5_129 yv_X4_open rfl rfl rfl rfl ⟨Nat.le_of_ble_eq_true rfl, Nat.le_of_ble_eq_true rfl⟩ ⟨rfl, rfl⟩ (Nat.le_of_ble_eq_true rfl) ⟨Nat.le_of_ble_eq_true rfl, Nat.le_of_ble_eq_true rfl⟩ ?_
    refine g_iconst X dX5_doAllSteps_21 (v := 0) (by decide) ?_
    refine g_istore_n X (i := 1) dX5_doAllSteps_22 rfl (by decide) rfl ?_
    obtain ⟨o12, h13, hf⟩ := hfb hf
    refine gl_X5_doAllSteps_L23 X BIG h13 ?_
    refine g_iload_n X (i := 1) dX5_doAllSteps_57 rfl rfl ?_
    exact g_iret X hr dX5_doAllSteps_58 hf
  · refine g_iconst X dX5_doAllSteps_21 (v := 0) (by decide) ?_
    refine g_istore_n X (i := 1) dX5_doAllSteps_22 rfl (by decide) rfl ?_
    obtain ⟨o14, h15, hf⟩ := hfb hf
    refine gl_X5_doAllSteps_L23 X BIG h15 ?_
    refine g_iload_n X (i := 1) dX5_doAllSteps_57 rfl rfl ?_
    exact g_iret X hr dX5_doAllSteps_58 hf
def f_X5_setCare (x1 : Int32) (w : St) : Option (Int32 × St) := (if x1 = 1 then (f_X4_isThere w).bind fun o2 => (if o2.1 = 0 then some (o2.2.1 10, sR o2.2 10 x1) else some ((-12), o2.2)) else (if x1 = 2 then (f_X4_isThere w).bind fun o6 => (if o6.1 = 0 then some (o6.2.1 10, sR o6.2 10 x1) else some ((-12), o6.2)) else some ((-11), w)))
set_option maxRecDepth 100000 in
set_option maxHeartbeats 4000000 in
theorem c_X5_setCare {l : Launch} {D : va_G} {cI : ClassId × ClassId} {A : Nat → Prop} {ad : Nat → Nat} {x1 : Int32} {w : St} {o : Int32 × St} (hf : f_X5_setCare x1 w = some o) : CTi l D cI A yX5_setCare cX5_setCare 3 (some .int) rm_X5_setCare [.ref (ad 2), .int x1] ((wS ad cI) w) o.1 ((wS ad cI) o.2)   := by
  refine CTi.of (by decide +kernel) rfl (Nat.le_of_ble_eq_true rfl) ?_
  intro p e s m args below meth c X hr
  have X : gX p s m args meth c cX5_setCare 3 RX5 D cI := X
  show G _ _ _ _ _ _ _ _ _ _ _ _ _ _ _ _ _ 0 [some (.ref (ad 2)), some (.int x1), none] [] w
  unfold f_X5_setCare at hf
  refine g_iload_n X (i := 1) dX5_setCare_0 rfl rfl ?_
  refine g_iconst X dX5_setCare_1 (v := 1) (by decide) ?_
  refine g_icmp_eq X dX5_setCare_2 (tgt := 13) (by decide) hf (fun c1 hf => ?_) (fun c1 hf => ?_)
  · refine g_aload_n X (i := 0) dX5_setCare_13 rfl rfl ?_
    refine g_get X (q0 := 2) (v := .ref (ad 4)) 1 dX5_setCare_14 gC_X5 rfl rfl (by decide) fl_X5_21 rfl rfl ?_
    obtain ⟨o2, h3, hf⟩ := hfb hf
    refine g_Vi X (q0 := 4) (As := []) (rest := []) (c_X4_isThere h3) dX5_setCare_17 ml_X5_126 yv_X4_isThere rfl rfl rfl rfl ⟨Nat.le_of_ble_eq_true rfl, Nat.le_of_ble_eq_true rfl⟩ ⟨rfl, rfl⟩ (Nat.le_of_ble_eq_true rfl) ⟨Nat.le_of_ble_eq_true rfl, Nat.le_of_ble_eq_true rfl⟩ ?_
    refine g_if_eq X dX5_setCare_20 (tgt := 26) (by decide) hf (fun c4 hf => ?_) (fun c4 hf => ?_)
    · refine g_aload_n X (i := 0) dX5_setCare_26 rfl rfl ?_
      refine g_get X (q0 := 2) (v := .int (o2.2.1 10)) 3 dX5_setCare_27 gC_X5 rfl rfl (by decide) fl_X5_29 rfl rfl ?_
      refine g_istore_n X (i := 2) dX5_setCare_30 rfl (by decide) rfl ?_
      refine g_aload_n X (i := 0) dX5_setCare_31 rfl rfl ?_
      refine g_iload_n X (i := 1) dX5_setCare_32 rfl rfl ?_
      refine g_put X (q0 := 2) 3 dX5_setCare_33 gC_X5 rfl rfl (by decide) fl_X5_29 rfl rfl rfl rfl (Nat.le_of_ble_eq_true rfl) (pwS_10 ad cI _ _) ?_
      refine g_iload_n X (i := 2) dX5_setCare_36 rfl rfl ?_
      exact g_iret X hr dX5_setCare_37 hf
    · refine g_bipush X dX5_setCare_23 (v := (-12)) (by decide) ?_
      exact g_iret X hr dX5_setCare_25 hf
  · refine g_iload_n X (i := 1) dX5_setCare_5 rfl rfl ?_
    refine g_iconst X dX5_setCare_6 (v := 2) (by decide) ?_
    refine g_icmp_eq X dX5_setCare_7 (tgt := 13) (by decide) hf (fun c5 hf => ?_) (fun c5 hf => ?_)
    · refine g_aload_n X (i := 0) dX5_setCare_13 rfl rfl ?_
      refine g_get X (q0 := 2) (v := .ref (ad 4)) 1 dX5_setCare_14 gC_X5 rfl rfl (by decide) fl_X5_21 rfl rfl ?_
      obtain ⟨o6, h7, hf⟩ := hfb hf
      refine g_Vi X (q0 := 4) (As := []) (rest := []) (c_X4_isThere h7) dX5_setCare_17 ml_X5_126 yv_X4_isThere rfl rfl rfl rfl ⟨Nat.le_of_ble_eq_true rfl, Nat.le_of_ble_eq_true rfl⟩ ⟨rfl, rfl⟩ (Nat.le_of_ble_eq_true rfl) ⟨Nat.le_of_ble_eq_true rfl, Nat.le_of_ble_eq_true rfl⟩ ?_
      refine g_if_eq X dX5_setCare_20 (tgt := 26) (by decide) hf (fun c8 hf => ?_) (fun c8 hf => ?_)
      · refine g_aload_n X (i := 0) dX5_setCare_26 rfl rfl ?_
        refine g_get X (q0 := 2) (v := .int (o6.2.1 10)) 3 dX5_setCare_27 gC_X5 rfl rfl (by decide) fl_X5_29 rfl rfl ?_
        refine g_istore_n X (i := 2) dX5_setCare_30 rfl (by decide) rfl ?_
        refine g_aload_n X (i := 0) dX5_setCare_31 rfl rfl ?_
        refine g_iload_n X (i := 1) dX5_setCare_32 rfl rfl ?_
        refine g_put X (q0 := 2) 3 dX5_setCare_33 gC_X5 rfl rfl (by decide) fl_X5_29 rfl rfl rfl rfl (Nat.le_of_ble_eq_true rfl) (pwS_10 ad cI _ _) ?_
        refine g_iload_n X (i := 2) dX5_setCare_36 rfl rfl ?_
        exact g_iret X hr dX5_setCare_37 hf
      · refine g_bipush X dX5_setCare_23 (v := (-12)) (by decide) ?_
        exact g_iret X hr dX5_setCare_25 hf
    · refine g_bipush X dX5_setCare_10 (v := (-11)) (by decide) ?_
      exact g_iret X hr dX5_setCare_12 hf
def f_X5_tellObject (x1 x2 : Int32) (w : St) : Option (Int32 × St) := (f_X6_isIn x1 24 w).bind fun o1 => (if o1.1 = 0 then some ((-11), o1.2) else (f_X1_has x1 o1.2).bind fun o4 => (if o4.1 = 0 then some ((-11), o4.2) else (if x2 = 0 then (f_X4_colourOf x1 o4.2).bind fun o8 => some (o8.1, o8.2) else (if x2 = 1 then (f_X1_fieldOf x1 (x2 - 1) o4.2).bind fun o11 => some (o11.1, o11.2) else (if x2 = 2 then (f_X1_fieldOf x1 (x2 - 1) o4.2).bind fun o14 => some (o14.1, o14.2) else (if x2 = 3 then (f_X1_fieldOf x1 (x2 - 1) o4.2).bind fun o17 => some (o17.1, o17.2) else (if x2 = 4 then (f_X6_bit x1 o4.2).bind fun o20 => (if ((o4.2.1 14) &&& o20.1) = 0 then some (0, o20.2) else some (1, o20.2)) else (if x2 = 5 then (f_X1_reachedByRoots o4.2).bind fun o24 => (f_X6_bit x1 o24.2).bind fun o26 => (if (o24.1 &&& o26.1) = 0 then some (0, o26.2) else some (1, o26.2)) else (if x2 = 6 then (f_X3_placeOf_5 x1 o4.2).bind fun o30 => some (o30.1, o30.2) else (if x2 = 7 then if ib x1 24 then some ((o4.2.1 19) - (o4.2.2 6 x1.toNatClampNeg), o4.2) else none else some ((-11), o4.2)))))))))))
set_option maxRecDepth 100000 in
set_option maxHeartbeats 4000000 in
theorem c_X5_tellObject {l : Launch} {D : va_G} {cI : ClassId × ClassId} {A : Nat → Prop} {ad : Nat → Nat} {x1 x2 : Int32} {w : St} {o : Int32 × St} (hf : f_X5_tellObject x1 x2 w = some o) : CTi l D cI A yX5_tellObject cX5_tellObject 3 (some .int) rm_X5_tellObject [.ref (ad 2), .int x1, .int x2] ((wS ad cI) w) o.1 ((wS ad cI) o.2)   := by
  refine CTi.of (by decide +kernel) rfl (Nat.le_of_ble_eq_true rfl) ?_
  intro p e s m args below meth c X hr
  have X : gX p s m args meth c cX5_tellObject 3 RX5 D cI := X
  show G _ _ _ _ _ _ _ _ _ _ _ _ _ _ _ _ _ 0 [some (.ref (ad 2)), some (.int x1), some (.int x2)] [] w
  unfold f_X5_tellObject at hf
  refine g_iload_n X (i := 1) dX5_tellObject_0 rfl rfl ?_
  refine g_bipush X dX5_tellObject_1 (v := 24) (by decide) ?_
  obtain ⟨o1, h2, hf⟩ := hfb hf
  refine g_Ni X (As := [.int x1, .int 24]) (rest := []) (c_X6_isIn (wf := (wS ad cI)) h2) dX5_tellObject_3 ml_X5_33 yv_X6_isIn rfl rfl ⟨Nat.le_of_ble_eq_true rfl, Nat.le_of_ble_eq_true rfl⟩ ⟨rfl, rfl⟩ (Nat.le_of_ble_eq_true rfl) ⟨Nat.le_of_ble_eq_true rfl, Nat.le_of_ble_eq_true rfl⟩ ?_
  refine g_if_eq X dX5_tellObject_6 (tgt := 20) (by decide) hf (fun c3 hf => ?_) (fun c3 hf => ?_)
  · refine g_bipush X dX5_tellObject_20 (v := (-11)) (by decide) ?_
    exact g_iret X hr dX5_tellObject_22 hf
  · refine g_aload_n X (i := 0) dX5_tellObject_9 rfl rfl ?_
    refine g_get X (q0 := 2) (v := .ref (ad 3)) 0 dX5_tellObject_10 gC_X5 rfl rfl (by decide) fl_X5_12 rfl rfl ?_
    refine g_iload_n X (i := 1) dX5_tellObject_13 rfl rfl ?_
    obtain ⟨o4, h5, hf⟩ := hfb hf
    refine g_Vi X (q0 := 3) (As := [.int x1]) (rest := []) (c_X1_has h5) dX5_tellObject_14 ml_X5_55 yv_X1_has rfl rfl rfl rfl ⟨Nat.le_of_ble_eq_true rfl, Nat.le_of_ble_eq_true rfl⟩ ⟨rfl, rfl⟩ (Nat.le_of_ble_eq_true rfl) ⟨Nat.le_of_ble_eq_true rfl, Nat.le_of_ble_eq_true rfl⟩ ?_
    refine g_if_ne X dX5_tellObject_17 (tgt := 23) (by decide) hf (fun c6 hf => ?_) (fun c6 hf => ?_)
    · refine g_bipush X dX5_tellObject_20 (v := (-11)) (by decide) ?_
      exact g_iret X hr dX5_tellObject_22 hf
    · refine g_iload_n X (i := 2) dX5_tellObject_23 rfl rfl ?_
      rcases hfi (q := x2 = 0) hf with ⟨c7, hf⟩ | ⟨c7, hf⟩
      · refine g_tableIn X dX5_tellObject_24 (by rw [c7]; decide) (by rw [c7]; decide) (by rw [c7]; rfl) (tgt := 72) (by decide) ?_
        refine g_aload_n X (i := 0) dX5_tellObject_72 rfl rfl ?_
        refine g_get X (q0 := 2) (v := .ref (ad 4)) 1 dX5_tellObject_73 gC_X5 rfl rfl (by decide) fl_X5_21 rfl rfl ?_
        refine g_iload_n X (i := 1) dX5_tellObject_76 rfl rfl ?_
        obtain ⟨o8, h9, hf⟩ := hfb hf
        refine g_Vi X (q0 := 4) (As := [.int x1]) (rest := []) (c_X4_colourOf h9) dX5_tellObject_77 ml_X5_145 yv_X4_colourOf rfl rfl rfl rfl ⟨Nat.le_of_ble_eq_true rfl, Nat.le_of_ble_eq_true rfl⟩ ⟨rfl, rfl⟩ (Nat.le_of_ble_eq_true rfl) ⟨Nat.le_of_ble_eq_true rfl, Nat.le_of_ble_eq_true rfl⟩ ?_
        exact g_iret X hr dX5_tellObject_80 hf
      rcases hfi (q := x2 = 1) hf with ⟨c10, hf⟩ | ⟨c10, hf⟩
      · refine g_tableIn X dX5_tellObject_24 (by rw [c10]; decide) (by rw [c10]; decide) (by rw [c10]; rfl) (tgt := 81) (by decide) ?_
        refine g_aload_n X (i := 0) dX5_tellObject_81 rfl rfl ?_
        refine g_get X (q0 := 2) (v := .ref (ad 3)) 0 dX5_tellObject_82 gC_X5 rfl rfl (by decide) fl_X5_12 rfl rfl ?_
        refine g_iload_n X (i := 1) dX5_tellObject_85 rfl rfl ?_
        refine g_iload_n X (i := 2) dX5_tellObject_86 rfl rfl ?_
        refine g_iconst X dX5_tellObject_87 (v := 1) (by decide) ?_
        refine g_isub X dX5_tellObject_88 ?_
        obtain ⟨o11, h12, hf⟩ := hfb hf
        refine g_Vi X (q0 := 3) (As := [.int x1, .int (x2 - 1)]) (rest := []) (c_X1_fieldOf h12) dX5_tellObject_89 ml_X5_69 yv_X1_fieldOf rfl rfl rfl rfl ⟨Nat.le_of_ble_eq_true rfl, Nat.le_of_ble_eq_true rfl⟩ ⟨rfl, rfl⟩ (Nat.le_of_ble_eq_true rfl) ⟨Nat.le_of_ble_eq_true rfl, Nat.le_of_ble_eq_true rfl⟩ ?_
        exact g_iret X hr dX5_tellObject_92 hf
      rcases hfi (q := x2 = 2) hf with ⟨c13, hf⟩ | ⟨c13, hf⟩
      · refine g_tableIn X dX5_tellObject_24 (by rw [c13]; decide) (by rw [c13]; decide) (by rw [c13]; rfl) (tgt := 81) (by decide) ?_
        refine g_aload_n X (i := 0) dX5_tellObject_81 rfl rfl ?_
        refine g_get X (q0 := 2) (v := .ref (ad 3)) 0 dX5_tellObject_82 gC_X5 rfl rfl (by decide) fl_X5_12 rfl rfl ?_
        refine g_iload_n X (i := 1) dX5_tellObject_85 rfl rfl ?_
        refine g_iload_n X (i := 2) dX5_tellObject_86 rfl rfl ?_
        refine g_iconst X dX5_tellObject_87 (v := 1) (by decide) ?_
        refine g_isub X dX5_tellObject_88 ?_
        obtain ⟨o14, h15, hf⟩ := hfb hf
        refine g_Vi X (q0 := 3) (As := [.int x1, .int (x2 - 1)]) (rest := []) (c_X1_fieldOf h15) dX5_tellObject_89 ml_X5_69 yv_X1_fieldOf rfl rfl rfl rfl ⟨Nat.le_of_ble_eq_true rfl, Nat.le_of_ble_eq_true rfl⟩ ⟨rfl, rfl⟩ (Nat.le_of_ble_eq_true rfl) ⟨Nat.le_of_ble_eq_true rfl, Nat.le_of_ble_eq_true rfl⟩ ?_
        exact g_iret X hr dX5_tellObject_92 hf
      rcases hfi (q := x2 = 3) hf with ⟨c16, hf⟩ | ⟨c16, hf⟩
      · refine g_tableIn X dX5_tellObject_24 (by rw [c16]; decide) (by rw [c16]; decide) (by rw [c16]; rfl) (tgt := 81) (by decide) ?_
        refine g_aload_n X (i := 0) dX5_tellObject_81 rfl rfl ?_
        refine g_get X (q0 := 2) (v := .ref (ad 3)) 0 dX5_tellObject_82 gC_X5 rfl rfl (by decide) fl_X5_12 rfl rfl ?_
        refine g_iload_n X (i := 1) dX5_tellObject_85 rfl rfl ?_
        refine g_iload_n X (i := 2) dX5_tellObject_86 rfl rfl ?_
        refine g_iconst X dX5_tellObject_87 (v := 1) (by decide) ?_
        refine g_isub X dX5_tellObject_88 ?_
        obtain ⟨o17, h18, hf⟩ := hfb hf
        refine g_Vi X (q0 := 3) (As := [.int x1, .int (x2 - 1)]) (rest := []) (c_X1_fieldOf h18) dX5_tellObject_89 ml_X5_69 yv_X1_fieldOf rfl rfl rfl rfl ⟨Nat.le_of_ble_eq_true rfl, Nat.le_of_ble_eq_true rfl⟩ ⟨rfl, rfl⟩ (Nat.le_of_ble_eq_true rfl) ⟨Nat.le_of_ble_eq_true rfl, Nat.le_of_ble_eq_true rfl⟩ ?_
        exact g_iret X hr dX5_tellObject_92 hf
      rcases hfi (q := x2 = 4) hf with ⟨c19, hf⟩ | ⟨c19, hf⟩
      · refine g_tableIn X dX5_tellObject_24 (by rw [c19]; decide) (by rw [c19]; decide) (by rw [c19]; rfl) (tgt := 93) (by decide) ?_
        refine g_aload_n X (i := 0) dX5_tellObject_93 rfl rfl ?_
        refine g_get X (q0 := 2) (v := .ref (ad 3)) 0 dX5_tellObject_94 gC_X5 rfl rfl (by decide) fl_X5_12 rfl rfl ?_
        refine g_get X (q0 := 3) (v := .int (o4.2.1 14)) 1 dX5_tellObject_97 gC_X1 rfl rfl (by decide) fl_X5_96 rfl rfl ?_
        refine g_iload_n X (i := 1) dX5_tellObject_100 rfl rfl ?_
        obtain ⟨o20, h21, hf⟩ := hfb hf
        refine g_Ni X (As := [.int x1]) (rest := [.int (o4.2.1 14)]) (c_X6_bit (wf := (wS ad cI)) h21) dX5_tellObject_101 ml_X5_62 yv_X6_bit rfl rfl ⟨Nat.le_of_ble_eq_true rfl, Nat.le_of_ble_eq_true rfl⟩ ⟨rfl, rfl⟩ (Nat.le_of_ble_eq_true rfl) ⟨Nat.le_of_ble_eq_true rfl, Nat.le_of_ble_eq_true rfl⟩ ?_
        refine g_iand X dX5_tellObject_104 ?_
        refine g_if_eq X dX5_tellObject_105 (tgt := 112) (by decide) hf (fun c22 hf => ?_) (fun c22 hf => ?_)
        · refine g_iconst X dX5_tellObject_112 (v := 0) (by decide) ?_
          exact g_iret X hr dX5_tellObject_113 hf
        · refine g_iconst X dX5_tellObject_108 (v := 1) (by decide) ?_
          refine g_goto X dX5_tellObject_109 (tgt := 113) (by decide) ?_
          exact g_iret X hr dX5_tellObject_113 hf
      rcases hfi (q := x2 = 5) hf with ⟨c23, hf⟩ | ⟨c23, hf⟩
      · refine g_tableIn X dX5_tellObject_24 (by rw [c23]; decide) (by rw [c23]; decide) (by rw [c23]; rfl) (tgt := 114) (by decide) ?_
        refine g_aload_n X (i := 0) dX5_tellObject_114 rfl rfl ?_
        refine g_get X (q0 := 2) (v := .ref (ad 3)) 0 dX5_tellObject_115 gC_X5 rfl rfl (by decide) fl_X5_12 rfl rfl ?_
        obtain ⟨o24, h25, hf⟩ := hfb hf
        refine g_Vi X (q0 := 3) (As := []) (rest := []) (c_X1_reachedByRoots h25) dX5_tellObject_118 ml_X5_148 yv_X1_reachedByRoots rfl rfl rfl rfl ⟨Nat.le_of_ble_eq_true rfl, Nat.le_of_ble_eq_true rfl⟩ ⟨rfl, rfl⟩ (Nat.le_of_ble_eq_true rfl) ⟨Nat.le_of_ble_eq_true rfl, Nat.le_of_ble_eq_true rfl⟩ ?_
        refine g_iload_n X (i := 1) dX5_tellObject_121 rfl rfl ?_
        obtain ⟨o26, h27, hf⟩ := hfb hf
        refine g_Ni X (As := [.int x1]) (rest := [.int o24.1]) (c_X6_bit (wf := (wS ad cI)) h27) dX5_tellObject_122 ml_X5_62 yv_X6_bit rfl rfl ⟨Nat.le_of_ble_eq_true rfl, Nat.le_of_ble_eq_true rfl⟩ ⟨rfl, rfl⟩ (Nat.le_of_ble_eq_true rfl) ⟨Nat.le_of_ble_eq_true rfl, Nat.le_of_ble_eq_true rfl⟩ ?_
        refine g_iand X dX5_tellObject_125 ?_
        refine g_if_eq X dX5_tellObject_126 (tgt := 133) (by decide) hf (fun c28 hf => ?_) (fun c28 hf => ?_)
        · refine g_iconst X dX5_tellObject_133 (v := 0) (by decide) ?_
          exact g_iret X hr dX5_tellObject_134 hf
        · refine g_iconst X dX5_tellObject_129 (v := 1) (by decide) ?_
          refine g_goto X dX5_tellObject_130 (tgt := 134) (by decide) ?_
          exact g_iret X hr dX5_tellObject_134 hf
      rcases hfi (q := x2 = 6) hf with ⟨c29, hf⟩ | ⟨c29, hf⟩
      · refine g_tableIn X dX5_tellObject_24 (by rw [c29]; decide) (by rw [c29]; decide) (by rw [c29]; rfl) (tgt := 135) (by decide) ?_
        refine g_aload_n X (i := 0) dX5_tellObject_135 rfl rfl ?_
        refine g_get X (q0 := 2) (v := .ref (ad 3)) 0 dX5_tellObject_136 gC_X5 rfl rfl (by decide) fl_X5_12 rfl rfl ?_
        refine g_get X (q0 := 3) (v := .ref (ad 5)) 5 dX5_tellObject_139 gC_X1 rfl rfl (by decide) fl_X5_104 rfl rfl ?_
        refine g_iload_n X (i := 1) dX5_tellObject_142 rfl rfl ?_
        obtain ⟨o30, h31, hf⟩ := hfb hf
        refine g_Vi X (q0 := 5) (As := [.int x1]) (rest := []) (c_X3_placeOf_5 h31) dX5_tellObject_143 ml_X5_151 yv_X3_placeOf rfl rfl rfl rfl ⟨Nat.le_of_ble_eq_true rfl, Nat.le_of_ble_eq_true rfl⟩ ⟨rfl, rfl⟩ (Nat.le_of_ble_eq_true rfl) ⟨Nat.le_of_ble_eq_true rfl, Nat.le_of_ble_eq_true rfl⟩ ?_
        exact g_iret X hr dX5_tellObject_146 hf
      rcases hfi (q := x2 = 7) hf with ⟨c32, hf⟩ | ⟨c32, hf⟩
      · refine g_tableIn X dX5_tellObject_24 (by rw [c32]; decide) (by rw [c32]; decide) (by rw [c32]; rfl) (tgt := 147) (by decide) ?_
        refine g_aload_n X (i := 0) dX5_tellObject_147 rfl rfl ?_
        refine g_get X (q0 := 2) (v := .ref (ad 4)) 1 dX5_tellObject_148 gC_X5 rfl rfl (by decide) fl_X5_21 rfl rfl ?_
        refine g_get X (q0 := 4) (v := .int (o4.2.1 19)) 5 dX5_tellObject_151 gC_X4 rfl rfl (by decide) fl_X5_44 rfl rfl ?_
        refine g_aload_n X (i := 0) dX5_tellObject_154 rfl rfl ?_
        refine g_get X (q0 := 2) (v := .ref (ad 12)) 2 dX5_tellObject_155 gC_X5 rfl rfl (by decide) fl_X5_25 rfl rfl ?_
        refine g_iload_n X (i := 1) dX5_tellObject_158 rfl rfl ?_
        obtain ⟨hb33, hf⟩ := hfg hf
        refine g_iald X (q0 := 12) (f := o4.2.2 6) dX5_tellObject_159 rfl hb33 ?_
        refine g_isub X dX5_tellObject_160 ?_
        exact g_iret X hr dX5_tellObject_161 hf
      refine g_tableOut X dX5_tellObject_24 (sw_out x2 0 7 [0, 1, 2, 3, 4, 5, 6, 7] rfl (List.forall_mem_cons.mpr ⟨c7, List.forall_mem_cons.mpr ⟨c10, List.forall_mem_cons.mpr ⟨c13, List.forall_mem_cons.mpr ⟨c16, List.forall_mem_cons.mpr ⟨c19, List.forall_mem_cons.mpr ⟨c23, List.forall_mem_cons.mpr ⟨c29, List.forall_mem_cons.mpr ⟨c32, fun _ h => absurd h List.not_mem_nil⟩⟩⟩⟩⟩⟩⟩⟩)) (tgt := 162) (by decide) ?_
      refine g_bipush X dX5_tellObject_162 (v := (-11)) (by decide) ?_
      exact g_iret X hr dX5_tellObject_164 hf
def f_X5_tellSet (x1 : Int32) (w : St) : Option (Int32 × St) := (if x1 = 0 then some (w.1 13, w) else (if x1 = 1 then (f_X1_reachedByRoots w).bind fun o3 => some (o3.1, o3.2) else (if x1 = 2 then (f_X1_reachedByAll w).bind fun o6 => some (o6.1, o6.2) else (if x1 = 3 then (f_X4_whiteOnes w).bind fun o9 => some (o9.1, o9.2) else (if x1 = 4 then some (w.1 16, w) else (if x1 = 5 then some (w.1 17, w) else (if x1 = 6 then some (w.1 14, w) else (if x1 = 7 then some (w.1 21, w) else some ((-11), w)))))))))
set_option maxRecDepth 100000 in
set_option maxHeartbeats 4000000 in
theorem c_X5_tellSet {l : Launch} {D : va_G} {cI : ClassId × ClassId} {A : Nat → Prop} {ad : Nat → Nat} {x1 : Int32} {w : St} {o : Int32 × St} (hf : f_X5_tellSet x1 w = some o) : CTi l D cI A yX5_tellSet cX5_tellSet 2 (some .int) rm_X5_tellSet [.ref (ad 2), .int x1] ((wS ad cI) w) o.1 ((wS ad cI) o.2)   := by
  refine CTi.of (by decide +kernel) rfl (Nat.le_of_ble_eq_true rfl) ?_
  intro p e s m args below meth c X hr
  have X : gX p s m args meth c cX5_tellSet 2 RX5 D cI := X
  show G _ _ _ _ _ _ _ _ _ _ _ _ _ _ _ _ _ 0 [some (.ref (ad 2)), some (.int x1)] [] w
  unfold f_X5_tellSet at hf
  refine g_iload_n X (i := 1) dX5_tellSet_0 rfl rfl ?_
  rcases hfi (q := x1 = 0) hf with ⟨c1, hf⟩ | ⟨c1, hf⟩
  · refine g_tableIn X dX5_tellSet_1 (by rw [c1]; decide) (by rw [c1]; decide) (by rw [c1]; rfl) (tgt := 48) (by decide) ?_
    refine g_aload_n X (i := 0) dX5_tellSet_48 rfl rfl ?_
    refine g_get X (q0 := 2) (v := .ref (ad 3)) 0 dX5_tellSet_49 gC_X5 rfl rfl (by decide) fl_X5_12 rfl rfl ?_
    refine g_get X (q0 := 3) (v := .int (w.1 13)) 0 dX5_tellSet_52 gC_X1 rfl rfl (by decide) fl_X5_154 rfl rfl ?_
    exact g_iret X hr dX5_tellSet_55 hf
  rcases hfi (q := x1 = 1) hf with ⟨c2, hf⟩ | ⟨c2, hf⟩
  · refine g_tableIn X dX5_tellSet_1 (by rw [c2]; decide) (by rw [c2]; decide) (by rw [c2]; rfl) (tgt := 56) (by decide) ?_
    refine g_aload_n X (i := 0) dX5_tellSet_56 rfl rfl ?_
    refine g_get X (q0 := 2) (v := .ref (ad 3)) 0 dX5_tellSet_57 gC_X5 rfl rfl (by decide) fl_X5_12 rfl rfl ?_
    obtain ⟨o3, h4, hf⟩ := hfb hf
    refine g_Vi X (q0 := 3) (As := []) (rest := []) (c_X1_reachedByRoots h4) dX5_tellSet_60 ml_X5_148 yv_X1_reachedByRoots rfl rfl rfl rfl ⟨Nat.le_of_ble_eq_true rfl, Nat.le_of_ble_eq_true rfl⟩ ⟨rfl, rfl⟩ (Nat.le_of_ble_eq_true rfl) ⟨Nat.le_of_ble_eq_true rfl, Nat.le_of_ble_eq_true rfl⟩ ?_
    exact g_iret X hr dX5_tellSet_63 hf
  rcases hfi (q := x1 = 2) hf with ⟨c5, hf⟩ | ⟨c5, hf⟩
  · refine g_tableIn X dX5_tellSet_1 (by rw [c5]; decide) (by rw [c5]; decide) (by rw [c5]; rfl) (tgt := 64) (by decide) ?_
    refine g_aload_n X (i := 0) dX5_tellSet_64 rfl rfl ?_
    refine g_get X (q0 := 2) (v := .ref (ad 3)) 0 dX5_tellSet_65 gC_X5 rfl rfl (by decide) fl_X5_12 rfl rfl ?_
    obtain ⟨o6, h7, hf⟩ := hfb hf
    refine g_Vi X (q0 := 3) (As := []) (rest := []) (c_X1_reachedByAll h7) dX5_tellSet_68 ml_X5_66 yv_X1_reachedByAll rfl rfl rfl rfl ⟨Nat.le_of_ble_eq_true rfl, Nat.le_of_ble_eq_true rfl⟩ ⟨rfl, rfl⟩ (Nat.le_of_ble_eq_true rfl) ⟨Nat.le_of_ble_eq_true rfl, Nat.le_of_ble_eq_true rfl⟩ ?_
    exact g_iret X hr dX5_tellSet_71 hf
  rcases hfi (q := x1 = 3) hf with ⟨c8, hf⟩ | ⟨c8, hf⟩
  · refine g_tableIn X dX5_tellSet_1 (by rw [c8]; decide) (by rw [c8]; decide) (by rw [c8]; rfl) (tgt := 72) (by decide) ?_
    refine g_aload_n X (i := 0) dX5_tellSet_72 rfl rfl ?_
    refine g_get X (q0 := 2) (v := .ref (ad 4)) 1 dX5_tellSet_73 gC_X5 rfl rfl (by decide) fl_X5_21 rfl rfl ?_
    refine g_aload_n X (i := 0) dX5_tellSet_76 rfl rfl ?_
    refine g_get X (q0 := 2) (v := .ref (ad 3)) 0 dX5_tellSet_77 gC_X5 rfl rfl (by decide) fl_X5_12 rfl rfl ?_
    obtain ⟨o9, h10, hf⟩ := hfb hf
    refine g_Vi X (q0 := 4) (As := [.ref (ad 3)]) (rest := []) (c_X4_whiteOnes h10) dX5_tellSet_80 ml_X5_157 yv_X4_whiteOnes rfl rfl rfl rfl ⟨Nat.le_of_ble_eq_true rfl, Nat.le_of_ble_eq_true rfl⟩ ⟨rfl, rfl⟩ (Nat.le_of_ble_eq_true rfl) ⟨Nat.le_of_ble_eq_true rfl, Nat.le_of_ble_eq_true rfl⟩ ?_
    exact g_iret X hr dX5_tellSet_83 hf
  rcases hfi (q := x1 = 4) hf with ⟨c11, hf⟩ | ⟨c11, hf⟩
  · refine g_tableIn X dX5_tellSet_1 (by rw [c11]; decide) (by rw [c11]; decide) (by rw [c11]; rfl) (tgt := 84) (by decide) ?_
    refine g_aload_n X (i := 0) dX5_tellSet_84 rfl rfl ?_
    refine g_get X (q0 := 2) (v := .ref (ad 4)) 1 dX5_tellSet_85 gC_X5 rfl rfl (by decide) fl_X5_21 rfl rfl ?_
    refine g_get X (q0 := 4) (v := .int (w.1 16)) 1 dX5_tellSet_88 gC_X4 rfl rfl (by decide) fl_X5_161 rfl rfl ?_
    exact g_iret X hr dX5_tellSet_91 hf
  rcases hfi (q := x1 = 5) hf with ⟨c12, hf⟩ | ⟨c12, hf⟩
  · refine g_tableIn X dX5_tellSet_1 (by rw [c12]; decide) (by rw [c12]; decide) (by rw [c12]; rfl) (tgt := 92) (by decide) ?_
    refine g_aload_n X (i := 0) dX5_tellSet_92 rfl rfl ?_
    refine g_get X (q0 := 2) (v := .ref (ad 4)) 1 dX5_tellSet_93 gC_X5 rfl rfl (by decide) fl_X5_21 rfl rfl ?_
    refine g_get X (q0 := 4) (v := .int (w.1 17)) 2 dX5_tellSet_96 gC_X4 rfl rfl (by decide) fl_X5_164 rfl rfl ?_
    exact g_iret X hr dX5_tellSet_99 hf
  rcases hfi (q := x1 = 6) hf with ⟨c13, hf⟩ | ⟨c13, hf⟩
  · refine g_tableIn X dX5_tellSet_1 (by rw [c13]; decide) (by rw [c13]; decide) (by rw [c13]; rfl) (tgt := 100) (by decide) ?_
    refine g_aload_n X (i := 0) dX5_tellSet_100 rfl rfl ?_
    refine g_get X (q0 := 2) (v := .ref (ad 3)) 0 dX5_tellSet_101 gC_X5 rfl rfl (by decide) fl_X5_12 rfl rfl ?_
    refine g_get X (q0 := 3) (v := .int (w.1 14)) 1 dX5_tellSet_104 gC_X1 rfl rfl (by decide) fl_X5_96 rfl rfl ?_
    exact g_iret X hr dX5_tellSet_107 hf
  rcases hfi (q := x1 = 7) hf with ⟨c14, hf⟩ | ⟨c14, hf⟩
  · refine g_tableIn X dX5_tellSet_1 (by rw [c14]; decide) (by rw [c14]; decide) (by rw [c14]; rfl) (tgt := 108) (by decide) ?_
    refine g_aload_n X (i := 0) dX5_tellSet_108 rfl rfl ?_
    refine g_get X (q0 := 2) (v := .ref (ad 4)) 1 dX5_tellSet_109 gC_X5 rfl rfl (by decide) fl_X5_21 rfl rfl ?_
    refine g_get X (q0 := 4) (v := .int (w.1 21)) 7 dX5_tellSet_112 gC_X4 rfl rfl (by decide) fl_X5_167 rfl rfl ?_
    exact g_iret X hr dX5_tellSet_115 hf
  refine g_tableOut X dX5_tellSet_1 (sw_out x1 0 7 [0, 1, 2, 3, 4, 5, 6, 7] rfl (List.forall_mem_cons.mpr ⟨c1, List.forall_mem_cons.mpr ⟨c2, List.forall_mem_cons.mpr ⟨c5, List.forall_mem_cons.mpr ⟨c8, List.forall_mem_cons.mpr ⟨c11, List.forall_mem_cons.mpr ⟨c12, List.forall_mem_cons.mpr ⟨c13, List.forall_mem_cons.mpr ⟨c14, fun _ h => absurd h List.not_mem_nil⟩⟩⟩⟩⟩⟩⟩⟩)) (tgt := 116) (by decide) ?_
  refine g_bipush X dX5_tellSet_116 (v := (-11)) (by decide) ?_
  exact g_iret X hr dX5_tellSet_118 hf
def f_X5_tellNumber (x1 : Int32) (w : St) : Option (Int32 × St) := (if x1 = 0 then (f_X1_size w).bind fun o2 => some (o2.1, o2.2) else (if x1 = 1 then some (w.1 15, w) else (if x1 = 2 then some (w.1 19, w) else (if x1 = 3 then some (w.1 11, w) else (if x1 = 4 then some (w.1 22, w) else (if x1 = 5 then some (w.1 12, w) else (if x1 = 6 then some (w.1 23, w) else (if x1 = 7 then (if (w.1 15) = 3 then some (w.1 18, w) else some ((-14), w)) else (if x1 = 8 then (if (0 : Int32) < (w.1 19) then some (w.1 20, w) else some ((-14), w)) else (if x1 = 9 then some (w.1 10, w) else some ((-11), w)))))))))))
set_option maxRecDepth 100000 in
set_option maxHeartbeats 4000000 in
theorem c_X5_tellNumber {l : Launch} {D : va_G} {cI : ClassId × ClassId} {A : Nat → Prop} {ad : Nat → Nat} {x1 : Int32} {w : St} {o : Int32 × St} (hf : f_X5_tellNumber x1 w = some o) : CTi l D cI A yX5_tellNumber cX5_tellNumber 2 (some .int) rm_X5_tellNumber [.ref (ad 2), .int x1] ((wS ad cI) w) o.1 ((wS ad cI) o.2)   := by
  refine CTi.of (by decide +kernel) rfl (Nat.le_of_ble_eq_true rfl) ?_
  intro p e s m args below meth c X hr
  have X : gX p s m args meth c cX5_tellNumber 2 RX5 D cI := X
  show G _ _ _ _ _ _ _ _ _ _ _ _ _ _ _ _ _ 0 [some (.ref (ad 2)), some (.int x1)] [] w
  unfold f_X5_tellNumber at hf
  refine g_iload_n X (i := 1) dX5_tellNumber_0 rfl rfl ?_
  rcases hfi (q := x1 = 0) hf with ⟨c1, hf⟩ | ⟨c1, hf⟩
  · refine g_tableIn X dX5_tellNumber_1 (by rw [c1]; decide) (by rw [c1]; decide) (by rw [c1]; rfl) (tgt := 56) (by decide) ?_
    refine g_aload_n X (i := 0) dX5_tellNumber_56 rfl rfl ?_
    refine g_get X (q0 := 2) (v := .ref (ad 3)) 0 dX5_tellNumber_57 gC_X5 rfl rfl (by decide) fl_X5_12 rfl rfl ?_
    obtain ⟨o2, h3, hf⟩ := hfb hf
    refine g_Vi X (q0 := 3) (As := []) (rest := []) (c_X1_size h3) dX5_tellNumber_60 ml_X5_170 yv_X1_size rfl rfl rfl rfl ⟨Nat.le_of_ble_eq_true rfl, Nat.le_of_ble_eq_true rfl⟩ ⟨rfl, rfl⟩ (Nat.le_of_ble_eq_true rfl) ⟨Nat.le_of_ble_eq_true rfl, Nat.le_of_ble_eq_true rfl⟩ ?_
    exact g_iret X hr dX5_tellNumber_63 hf
  rcases hfi (q := x1 = 1) hf with ⟨c4, hf⟩ | ⟨c4, hf⟩
  · refine g_tableIn X dX5_tellNumber_1 (by rw [c4]; decide) (by rw [c4]; decide) (by rw [c4]; rfl) (tgt := 64) (by decide) ?_
    refine g_aload_n X (i := 0) dX5_tellNumber_64 rfl rfl ?_
    refine g_get X (q0 := 2) (v := .ref (ad 4)) 1 dX5_tellNumber_65 gC_X5 rfl rfl (by decide) fl_X5_21 rfl rfl ?_
    refine g_get X (q0 := 4) (v := .int (w.1 15)) 0 dX5_tellNumber_68 gC_X4 rfl rfl (by decide) fl_X5_173 rfl rfl ?_
    exact g_iret X hr dX5_tellNumber_71 hf
  rcases hfi (q := x1 = 2) hf with ⟨c5, hf⟩ | ⟨c5, hf⟩
  · refine g_tableIn X dX5_tellNumber_1 (by rw [c5]; decide) (by rw [c5]; decide) (by rw [c5]; rfl) (tgt := 72) (by decide) ?_
    refine g_aload_n X (i := 0) dX5_tellNumber_72 rfl rfl ?_
    refine g_get X (q0 := 2) (v := .ref (ad 4)) 1 dX5_tellNumber_73 gC_X5 rfl rfl (by decide) fl_X5_21 rfl rfl ?_
    refine g_get X (q0 := 4) (v := .int (w.1 19)) 5 dX5_tellNumber_76 gC_X4 rfl rfl (by decide) fl_X5_44 rfl rfl ?_
    exact g_iret X hr dX5_tellNumber_79 hf
  rcases hfi (q := x1 = 3) hf with ⟨c6, hf⟩ | ⟨c6, hf⟩
  · refine g_tableIn X dX5_tellNumber_1 (by rw [c6]; decide) (by rw [c6]; decide) (by rw [c6]; rfl) (tgt := 80) (by decide) ?_
    refine g_aload_n X (i := 0) dX5_tellNumber_80 rfl rfl ?_
    refine g_get X (q0 := 2) (v := .int (w.1 11)) 4 dX5_tellNumber_81 gC_X5 rfl rfl (by decide) fl_X5_41 rfl rfl ?_
    exact g_iret X hr dX5_tellNumber_84 hf
  rcases hfi (q := x1 = 4) hf with ⟨c7, hf⟩ | ⟨c7, hf⟩
  · refine g_tableIn X dX5_tellNumber_1 (by rw [c7]; decide) (by rw [c7]; decide) (by rw [c7]; rfl) (tgt := 85) (by decide) ?_
    refine g_aload_n X (i := 0) dX5_tellNumber_85 rfl rfl ?_
    refine g_get X (q0 := 2) (v := .ref (ad 4)) 1 dX5_tellNumber_86 gC_X5 rfl rfl (by decide) fl_X5_21 rfl rfl ?_
    refine g_get X (q0 := 4) (v := .int (w.1 22)) 8 dX5_tellNumber_89 gC_X4 rfl rfl (by decide) fl_X5_139 rfl rfl ?_
    exact g_iret X hr dX5_tellNumber_92 hf
  rcases hfi (q := x1 = 5) hf with ⟨c8, hf⟩ | ⟨c8, hf⟩
  · refine g_tableIn X dX5_tellNumber_1 (by rw [c8]; decide) (by rw [c8]; decide) (by rw [c8]; rfl) (tgt := 93) (by decide) ?_
    refine g_aload_n X (i := 0) dX5_tellNumber_93 rfl rfl ?_
    refine g_get X (q0 := 2) (v := .int (w.1 12)) 5 dX5_tellNumber_94 gC_X5 rfl rfl (by decide) fl_X5_113 rfl rfl ?_
    exact g_iret X hr dX5_tellNumber_97 hf
  rcases hfi (q := x1 = 6) hf with ⟨c9, hf⟩ | ⟨c9, hf⟩
  · refine g_tableIn X dX5_tellNumber_1 (by rw [c9]; decide) (by rw [c9]; decide) (by rw [c9]; rfl) (tgt := 98) (by decide) ?_
    refine g_aload_n X (i := 0) dX5_tellNumber_98 rfl rfl ?_
    refine g_get X (q0 := 2) (v := .ref (ad 3)) 0 dX5_tellNumber_99 gC_X5 rfl rfl (by decide) fl_X5_12 rfl rfl ?_
    refine g_get X (q0 := 3) (v := .ref (ad 5)) 5 dX5_tellNumber_102 gC_X1 rfl rfl (by decide) fl_X5_104 rfl rfl ?_
    refine g_get X (q0 := 5) (v := .int (w.1 23)) 1 dX5_tellNumber_105 gC_X3 rfl rfl (by decide) fl_X5_136 rfl rfl ?_
    exact g_iret X hr dX5_tellNumber_108 hf
  rcases hfi (q := x1 = 7) hf with ⟨c10, hf⟩ | ⟨c10, hf⟩
  · refine g_tableIn X dX5_tellNumber_1 (by rw [c10]; decide) (by rw [c10]; decide) (by rw [c10]; rfl) (tgt := 109) (by decide) ?_
    refine g_aload_n X (i := 0) dX5_tellNumber_109 rfl rfl ?_
    refine g_get X (q0 := 2) (v := .ref (ad 4)) 1 dX5_tellNumber_110 gC_X5 rfl rfl (by decide) fl_X5_21 rfl rfl ?_
    refine g_get X (q0 := 4) (v := .int (w.1 15)) 0 dX5_tellNumber_113 gC_X4 rfl rfl (by decide) fl_X5_173 rfl rfl ?_
    refine g_iconst X dX5_tellNumber_116 (v := 3) (by decide) ?_
    refine g_icmp_ne X dX5_tellNumber_117 (tgt := 130) (by decide) hf (fun c11 hf => ?_) (fun c11 hf => ?_)
    · refine g_aload_n X (i := 0) dX5_tellNumber_120 rfl rfl ?_
      refine g_get X (q0 := 2) (v := .ref (ad 4)) 1 dX5_tellNumber_121 gC_X5 rfl rfl (by decide) fl_X5_21 rfl rfl ?_
      refine g_get X (q0 := 4) (v := .int (w.1 18)) 4 dX5_tellNumber_124 gC_X4 rfl rfl (by decide) fl_X5_176 rfl rfl ?_
      refine g_goto X dX5_tellNumber_127 (tgt := 132) (by decide) ?_
      exact g_iret X hr dX5_tellNumber_132 hf
    · refine g_bipush X dX5_tellNumber_130 (v := (-14)) (by decide) ?_
      exact g_iret X hr dX5_tellNumber_132 hf
  rcases hfi (q := x1 = 8) hf with ⟨c12, hf⟩ | ⟨c12, hf⟩
  · refine g_tableIn X dX5_tellNumber_1 (by rw [c12]; decide) (by rw [c12]; decide) (by rw [c12]; rfl) (tgt := 133) (by decide) ?_
    refine g_aload_n X (i := 0) dX5_tellNumber_133 rfl rfl ?_
    refine g_get X (q0 := 2) (v := .ref (ad 4)) 1 dX5_tellNumber_134 gC_X5 rfl rfl (by decide) fl_X5_21 rfl rfl ?_
    refine g_get X (q0 := 4) (v := .int (w.1 19)) 5 dX5_tellNumber_137 gC_X4 rfl rfl (by decide) fl_X5_44 rfl rfl ?_
    refine g_if_le X dX5_tellNumber_140 (tgt := 153) (by decide) hf (fun c13 hf => ?_) (fun c13 hf => ?_)
    · refine g_aload_n X (i := 0) dX5_tellNumber_143 rfl rfl ?_
      refine g_get X (q0 := 2) (v := .ref (ad 4)) 1 dX5_tellNumber_144 gC_X5 rfl rfl (by decide) fl_X5_21 rfl rfl ?_
      refine g_get X (q0 := 4) (v := .int (w.1 20)) 6 dX5_tellNumber_147 gC_X4 rfl rfl (by decide) fl_X5_179 rfl rfl ?_
      refine g_goto X dX5_tellNumber_150 (tgt := 155) (by decide) ?_
      exact g_iret X hr dX5_tellNumber_155 hf
    · refine g_bipush X dX5_tellNumber_153 (v := (-14)) (by decide) ?_
      exact g_iret X hr dX5_tellNumber_155 hf
  rcases hfi (q := x1 = 9) hf with ⟨c14, hf⟩ | ⟨c14, hf⟩
  · refine g_tableIn X dX5_tellNumber_1 (by rw [c14]; decide) (by rw [c14]; decide) (by rw [c14]; rfl) (tgt := 156) (by decide) ?_
    refine g_aload_n X (i := 0) dX5_tellNumber_156 rfl rfl ?_
    refine g_get X (q0 := 2) (v := .int (w.1 10)) 3 dX5_tellNumber_157 gC_X5 rfl rfl (by decide) fl_X5_29 rfl rfl ?_
    exact g_iret X hr dX5_tellNumber_160 hf
  refine g_tableOut X dX5_tellNumber_1 (sw_out x1 0 9 [0, 1, 2, 3, 4, 5, 6, 7, 8, 9] rfl (List.forall_mem_cons.mpr ⟨c1, List.forall_mem_cons.mpr ⟨c4, List.forall_mem_cons.mpr ⟨c5, List.forall_mem_cons.mpr ⟨c6, List.forall_mem_cons.mpr ⟨c7, List.forall_mem_cons.mpr ⟨c8, List.forall_mem_cons.mpr ⟨c9, List.forall_mem_cons.mpr ⟨c10, List.forall_mem_cons.mpr ⟨c12, List.forall_mem_cons.mpr ⟨c14, fun _ h => absurd h List.not_mem_nil⟩⟩⟩⟩⟩⟩⟩⟩⟩⟩)) (tgt := 161) (by decide) ?_
  refine g_bipush X dX5_tellNumber_161 (v := (-11)) (by decide) ?_
  exact g_iret X hr dX5_tellNumber_163 hf
