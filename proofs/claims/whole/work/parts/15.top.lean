def f_X2_settle (x1 : Int32) (w : TT) : Option (Int32 × TT) := (f_X6_isError x1 w).bind fun o1 => (if o1.1 = 0 then (if (o1.2.2.2 2) < 4 then some (x1, tR o1.2 2 ((o1.2.2.2 2) + 1)) else (f_J9_floorMod_7cf53 ((o1.2.2.2 1) + 1) 5 o1.2).bind fun o5 => some (x1, tR o5.2 1 o5.1)) else some (x1, o1.2))
set_option maxRecDepth 100000 in
set_option maxHeartbeats 4000000 in
theorem c_X2_settle {l : Launch} {D : va_G} {cI : ClassId × ClassId} {A : Nat → Prop} {ad : Nat → Nat} {x1 : Int32} {w : TT} {o : Int32 × TT} (hf : f_X2_settle x1 w = some o) : CTi l D cI A yX2_settle cX2_settle 2 (some .int) rm_X2_settle [.ref (ad 3), .int x1] ((wT ad cI) w) o.1 ((wT ad cI) o.2)   := by
  refine CTi.of (by decide +kernel) rfl (Nat.le_of_ble_eq_true rfl) ?_
  intro p e s m args below meth c X hr
  have X : gX p s m args meth c cX2_settle 2 RX2 D cI := X
  show G _ _ _ _ _ _ _ _ _ _ _ _ _ _ _ _ _ 0 [some (.ref (ad 3)), some (.int x1)] [] w
  unfold f_X2_settle at hf
  refine g_iload_n X (i := 1) dX2_settle_0 rfl rfl ?_
  obtain ⟨o1, h2, hf⟩ := hfb hf
  refine g_Ni X (As := [.int x1]) (rest := []) (c_X6_isError (wf := (wT ad cI)) h2) dX2_settle_1 ml_X2_39 yv_X6_isError rfl rfl ⟨Nat.le_of_ble_eq_true rfl, Nat.le_of_ble_eq_true rfl⟩ ⟨rfl, rfl⟩ (Nat.le_of_ble_eq_true rfl) ⟨Nat.le_of_ble_eq_true rfl, Nat.le_of_ble_eq_true rfl⟩ ?_
  refine g_if_eq X dX2_settle_4 (tgt := 9) (by decide) hf (fun c3 hf => ?_) (fun c3 hf => ?_)
  · refine g_aload_n X (i := 0) dX2_settle_9 rfl rfl ?_
    refine g_get X (q0 := 3) (v := .int (o1.2.2.2 2)) 2 dX2_settle_10 gC_X2 rfl rfl (by decide) fl_X2_28 rfl rfl ?_
    refine g_iconst X dX2_settle_13 (v := 4) (by decide) ?_
    refine g_icmp_ge X dX2_settle_14 (tgt := 30) (by decide) hf (fun c4 hf => ?_) (fun c4 hf => ?_)
    · refine g_aload_n X (i := 0) dX2_settle_17 rfl rfl ?_
      refine g_dup X dX2_settle_18 rfl ?_
      refine g_get X (q0 := 3) (v := .int (o1.2.2.2 2)) 2 dX2_settle_19 gC_X2 rfl rfl (by decide) fl_X2_28 rfl rfl ?_
      refine g_iconst X dX2_settle_22 (v := 1) (by decide) ?_
      refine g_iadd X dX2_settle_23 ?_
      refine g_put X (q0 := 3) 2 dX2_settle_24 gC_X2 rfl rfl (by decide) fl_X2_28 rfl rfl rfl rfl (Nat.le_of_ble_eq_true rfl) (pwT_2 ad cI _ _) ?_
      refine g_goto X dX2_settle_27 (tgt := 44) (by decide) ?_
      refine g_iload_n X (i := 1) dX2_settle_44 rfl rfl ?_
      exact g_iret X hr dX2_settle_45 hf
    · refine g_aload_n X (i := 0) dX2_settle_30 rfl rfl ?_
      refine g_aload_n X (i := 0) dX2_settle_31 rfl rfl ?_
      refine g_get X (q0 := 3) (v := .int (o1.2.2.2 1)) 1 dX2_settle_32 gC_X2 rfl rfl (by decide) fl_X2_18 rfl rfl ?_
      refine g_iconst X dX2_settle_35 (v := 1) (by decide) ?_
      refine g_iadd X dX2_settle_36 ?_
      refine g_iconst X dX2_settle_37 (v := 5) (by decide) ?_
      obtain ⟨o5, h6, hf⟩ := hfb hf
      refine g_Si X (As := [.int ((o1.2.2.2 1) + 1), .int 5]) (rest := [.ref (ad 3)]) (c_J9_floorMod_7cf53 (wf := (wT ad cI)) h6) dX2_settle_38 ml_X2_22 yv_J9_floorMod_7cf53 rfl rfl ⟨Nat.le_of_ble_eq_true rfl, Nat.le_of_ble_eq_true rfl⟩ ⟨rfl, rfl⟩ (Nat.le_of_ble_eq_true rfl) ⟨Nat.le_of_ble_eq_true rfl, Nat.le_of_ble_eq_true rfl⟩ ?_
      refine g_put X (q0 := 3) 1 dX2_settle_41 gC_X2 rfl rfl (by decide) fl_X2_18 rfl rfl rfl rfl (Nat.le_of_ble_eq_true rfl) (pwT_1 ad cI _ _) ?_
      refine g_iload_n X (i := 1) dX2_settle_44 rfl rfl ?_
      exact g_iret X hr dX2_settle_45 hf
  · refine g_iload_n X (i := 1) dX2_settle_7 rfl rfl ?_
    exact g_iret X hr dX2_settle_8 hf
def f_X6_all (w : TT) : Option (Int32 × TT) := (f_X2_note w).bind fun o1 => (f_X5_doAllSteps (mix o1.2 0)).bind fun o3 => (f_X2_settle o3.1 (put o1.2 0 o3.2)).bind fun o5 => some (o5.1, o5.2)
set_option maxRecDepth 100000 in
set_option maxHeartbeats 4000000 in
theorem c_X6_all {l : Launch} {D : va_G} {cI : ClassId × ClassId} {A : Nat → Prop} {ad : Nat → Nat} {w : TT} {o : Int32 × TT} (hf : f_X6_all w = some o) : CTi l D cI A yX6_all cX6_all 1 (some .int) rm_X6_all [.ref (ad 2)] ((wT ad cI) w) o.1 ((wT ad cI) o.2)   := by
  refine CTi.of (by decide +kernel) rfl (Nat.le_of_ble_eq_true rfl) ?_
  intro p e s m args below meth c X hr
  have X : gX p s m args meth c cX6_all 1 RX6 D cI := X
  show G _ _ _ _ _ _ _ _ _ _ _ _ _ _ _ _ _ 0 [some (.ref (ad 2))] [] w
  unfold f_X6_all at hf
  refine g_aload_n X (i := 0) dX6_all_0 rfl rfl ?_
  refine g_get X (q0 := 2) (v := .ref (ad 3)) 3 dX6_all_1 gC_X6 rfl rfl (by decide) fl_X6_25 rfl rfl ?_
  refine g_aload_n X (i := 0) dX6_all_4 rfl rfl ?_
  refine g_get X (q0 := 2) (v := .ref (ad 5)) 0 dX6_all_5 gC_X6 rfl rfl (by decide) fl_X6_10 rfl rfl ?_
  obtain ⟨o1, h2, hf⟩ := hfb hf
  refine g_Vv X (q0 := 3) (As := [.ref (ad 5)]) (rest := []) (c_X2_note h2) dX6_all_8 ml_X6_40 yv_X2_note rfl rfl rfl rfl ⟨Nat.le_of_ble_eq_true rfl, Nat.le_of_ble_eq_true rfl⟩ ⟨rfl, rfl⟩ (Nat.le_of_ble_eq_true rfl) ⟨Nat.le_of_ble_eq_true rfl, Nat.le_of_ble_eq_true rfl⟩ ?_
  refine g_aload_n X (i := 0) dX6_all_11 rfl rfl ?_
  refine g_get X (q0 := 2) (v := .ref (ad 3)) 3 dX6_all_12 gC_X6 rfl rfl (by decide) fl_X6_25 rfl rfl ?_
  refine g_aload_n X (i := 0) dX6_all_15 rfl rfl ?_
  refine g_get X (q0 := 2) (v := .ref (ad 5)) 0 dX6_all_16 gC_X6 rfl rfl (by decide) fl_X6_10 rfl rfl ?_
  obtain ⟨o3, h4, hf⟩ := hfb hf
  refine g_Vi X (q0 := 5) (As := []) (rest := [.ref (ad 3)]) (liftT_i (i := 0) (by decide) (c_X5_doAllSteps (ad := rho (5 + 11 * 0) ad) h4)) dX6_all_19 ml_X6_78 yv_X5_doAllSteps rfl rfl rfl rfl ⟨Nat.le_of_ble_eq_true rfl, Nat.le_of_ble_eq_true rfl⟩ ⟨rfl, rfl⟩ (Nat.le_of_ble_eq_true rfl) ⟨Nat.le_of_ble_eq_true rfl, Nat.le_of_ble_eq_true rfl⟩ ?_
  obtain ⟨o5, h6, hf⟩ := hfb hf
  refine g_Vi X (q0 := 3) (As := [.int o3.1]) (rest := []) (c_X2_settle h6) dX6_all_22 ml_X6_48 yv_X2_settle rfl rfl rfl rfl ⟨Nat.le_of_ble_eq_true rfl, Nat.le_of_ble_eq_true rfl⟩ ⟨rfl, rfl⟩ (Nat.le_of_ble_eq_true rfl) ⟨Nat.le_of_ble_eq_true rfl, Nat.le_of_ble_eq_true rfl⟩ ?_
  exact g_iret X hr dX6_all_25 hf
def f_X6_ask (x1 x2 : Int32) (w : TT) : Option (Int32 × TT) := (f_X2_note w).bind fun o1 => (f_X5_askHolder x1 x2 (mix o1.2 0)).bind fun o3 => (f_X2_settle o3.1 (put o1.2 0 o3.2)).bind fun o5 => some (o5.1, o5.2)
set_option maxRecDepth 100000 in
set_option maxHeartbeats 4000000 in
theorem c_X6_ask {l : Launch} {D : va_G} {cI : ClassId × ClassId} {A : Nat → Prop} {ad : Nat → Nat} {x1 x2 : Int32} {w : TT} {o : Int32 × TT} (hf : f_X6_ask x1 x2 w = some o) : CTi l D cI A yX6_ask cX6_ask 3 (some .int) rm_X6_ask [.ref (ad 2), .int x1, .int x2] ((wT ad cI) w) o.1 ((wT ad cI) o.2)   := by
  refine CTi.of (by decide +kernel) rfl (Nat.le_of_ble_eq_true rfl) ?_
  intro p e s m args below meth c X hr
  have X : gX p s m args meth c cX6_ask 3 RX6 D cI := X
  show G _ _ _ _ _ _ _ _ _ _ _ _ _ _ _ _ _ 0 [some (.ref (ad 2)), some (.int x1), some (.int x2)] [] w
  unfold f_X6_ask at hf
  refine g_aload_n X (i := 0) dX6_ask_0 rfl rfl ?_
  refine g_get X (q0 := 2) (v := .ref (ad 3)) 3 dX6_ask_1 gC_X6 rfl rfl (by decide) fl_X6_25 rfl rfl ?_
  refine g_aload_n X (i := 0) dX6_ask_4 rfl rfl ?_
  refine g_get X (q0 := 2) (v := .ref (ad 5)) 0 dX6_ask_5 gC_X6 rfl rfl (by decide) fl_X6_10 rfl rfl ?_
  obtain ⟨o1, h2, hf⟩ := hfb hf
  refine g_Vv X (q0 := 3) (As := [.ref (ad 5)]) (rest := []) (c_X2_note h2) dX6_ask_8 ml_X6_40 yv_X2_note rfl rfl rfl rfl ⟨Nat.le_of_ble_eq_true rfl, Nat.le_of_ble_eq_true rfl⟩ ⟨rfl, rfl⟩ (Nat.le_of_ble_eq_true rfl) ⟨Nat.le_of_ble_eq_true rfl, Nat.le_of_ble_eq_true rfl⟩ ?_
  refine g_aload_n X (i := 0) dX6_ask_11 rfl rfl ?_
  refine g_get X (q0 := 2) (v := .ref (ad 3)) 3 dX6_ask_12 gC_X6 rfl rfl (by decide) fl_X6_25 rfl rfl ?_
  refine g_aload_n X (i := 0) dX6_ask_15 rfl rfl ?_
  refine g_get X (q0 := 2) (v := .ref (ad 5)) 0 dX6_ask_16 gC_X6 rfl rfl (by decide) fl_X6_10 rfl rfl ?_
  refine g_iload_n X (i := 1) dX6_ask_19 rfl rfl ?_
  refine g_iload_n X (i := 2) dX6_ask_20 rfl rfl ?_
  obtain ⟨o3, h4, hf⟩ := hfb hf
  refine g_Vi X (q0 := 5) (As := [.int x1, .int x2]) (rest := [.ref (ad 3)]) (liftT_i (i := 0) (by decide) (c_X5_askHolder (ad := rho (5 + 11 * 0) ad) h4)) dX6_ask_21 ml_X6_62 yv_X5_askHolder rfl rfl rfl rfl ⟨Nat.le_of_ble_eq_true rfl, Nat.le_of_ble_eq_true rfl⟩ ⟨rfl, rfl⟩ (Nat.le_of_ble_eq_true rfl) ⟨Nat.le_of_ble_eq_true rfl, Nat.le_of_ble_eq_true rfl⟩ ?_
  obtain ⟨o5, h6, hf⟩ := hfb hf
  refine g_Vi X (q0 := 3) (As := [.int o3.1]) (rest := []) (c_X2_settle h6) dX6_ask_24 ml_X6_48 yv_X2_settle rfl rfl rfl rfl ⟨Nat.le_of_ble_eq_true rfl, Nat.le_of_ble_eq_true rfl⟩ ⟨rfl, rfl⟩ (Nat.le_of_ble_eq_true rfl) ⟨Nat.le_of_ble_eq_true rfl, Nat.le_of_ble_eq_true rfl⟩ ?_
  exact g_iret X hr dX6_ask_27 hf
def f_X6_begin (w : TT) : Option (Int32 × TT) := (f_X2_note w).bind fun o1 => (f_X5_beginSearch (mix o1.2 0)).bind fun o3 => (f_X2_settle o3.1 (put o1.2 0 o3.2)).bind fun o5 => some (o5.1, o5.2)
set_option maxRecDepth 100000 in
set_option maxHeartbeats 4000000 in
theorem c_X6_begin {l : Launch} {D : va_G} {cI : ClassId × ClassId} {A : Nat → Prop} {ad : Nat → Nat} {w : TT} {o : Int32 × TT} (hf : f_X6_begin w = some o) : CTi l D cI A yX6_begin cX6_begin 1 (some .int) rm_X6_begin [.ref (ad 2)] ((wT ad cI) w) o.1 ((wT ad cI) o.2)   := by
  refine CTi.of (by decide +kernel) rfl (Nat.le_of_ble_eq_true rfl) ?_
  intro p e s m args below meth c X hr
  have X : gX p s m args meth c cX6_begin 1 RX6 D cI := X
  show G _ _ _ _ _ _ _ _ _ _ _ _ _ _ _ _ _ 0 [some (.ref (ad 2))] [] w
  unfold f_X6_begin at hf
  refine g_aload_n X (i := 0) dX6_begin_0 rfl rfl ?_
  refine g_get X (q0 := 2) (v := .ref (ad 3)) 3 dX6_begin_1 gC_X6 rfl rfl (by decide) fl_X6_25 rfl rfl ?_
  refine g_aload_n X (i := 0) dX6_begin_4 rfl rfl ?_
  refine g_get X (q0 := 2) (v := .ref (ad 5)) 0 dX6_begin_5 gC_X6 rfl rfl (by decide) fl_X6_10 rfl rfl ?_
  obtain ⟨o1, h2, hf⟩ := hfb hf
  refine g_Vv X (q0 := 3) (As := [.ref (ad 5)]) (rest := []) (c_X2_note h2) dX6_begin_8 ml_X6_40 yv_X2_note rfl rfl rfl rfl ⟨Nat.le_of_ble_eq_true rfl, Nat.le_of_ble_eq_true rfl⟩ ⟨rfl, rfl⟩ (Nat.le_of_ble_eq_true rfl) ⟨Nat.le_of_ble_eq_true rfl, Nat.le_of_ble_eq_true rfl⟩ ?_
  refine g_aload_n X (i := 0) dX6_begin_11 rfl rfl ?_
  refine g_get X (q0 := 2) (v := .ref (ad 3)) 3 dX6_begin_12 gC_X6 rfl rfl (by decide) fl_X6_25 rfl rfl ?_
  refine g_aload_n X (i := 0) dX6_begin_15 rfl rfl ?_
  refine g_get X (q0 := 2) (v := .ref (ad 5)) 0 dX6_begin_16 gC_X6 rfl rfl (by decide) fl_X6_10 rfl rfl ?_
  obtain ⟨o3, h4, hf⟩ := hfb hf
  refine g_Vi X (q0 := 5) (As := []) (rest := [.ref (ad 3)]) (liftT_i (i := 0) (by decide) (c_X5_beginSearch (ad := rho (5 + 11 * 0) ad) h4)) dX6_begin_19 ml_X6_71 yv_X5_beginSearch rfl rfl rfl rfl ⟨Nat.le_of_ble_eq_true rfl, Nat.le_of_ble_eq_true rfl⟩ ⟨rfl, rfl⟩ (Nat.le_of_ble_eq_true rfl) ⟨Nat.le_of_ble_eq_true rfl, Nat.le_of_ble_eq_true rfl⟩ ?_
  obtain ⟨o5, h6, hf⟩ := hfb hf
  refine g_Vi X (q0 := 3) (As := [.int o3.1]) (rest := []) (c_X2_settle h6) dX6_begin_22 ml_X6_48 yv_X2_settle rfl rfl rfl rfl ⟨Nat.le_of_ble_eq_true rfl, Nat.le_of_ble_eq_true rfl⟩ ⟨rfl, rfl⟩ (Nat.le_of_ble_eq_true rfl) ⟨Nat.le_of_ble_eq_true rfl, Nat.le_of_ble_eq_true rfl⟩ ?_
  exact g_iret X hr dX6_begin_25 hf
def f_X6_clearText (w : TT) : Option (Int32 × TT) := (f_X0_empty (mix w 0)).bind fun o1 => some (o1.1, (put w 0 o1.2))
set_option maxRecDepth 100000 in
set_option maxHeartbeats 4000000 in
theorem c_X6_clearText {l : Launch} {D : va_G} {cI : ClassId × ClassId} {A : Nat → Prop} {ad : Nat → Nat} {w : TT} {o : Int32 × TT} (hf : f_X6_clearText w = some o) : CTi l D cI A yX6_clearText cX6_clearText 1 (some .int) rm_X6_clearText [.ref (ad 2)] ((wT ad cI) w) o.1 ((wT ad cI) o.2)   := by
  refine CTi.of (by decide +kernel) rfl (Nat.le_of_ble_eq_true rfl) ?_
  intro p e s m args below meth c X hr
  have X : gX p s m args meth c cX6_clearText 1 RX6 D cI := X
  show G _ _ _ _ _ _ _ _ _ _ _ _ _ _ _ _ _ 0 [some (.ref (ad 2))] [] w
  unfold f_X6_clearText at hf
  refine g_aload_n X (i := 0) dX6_clearText_0 rfl rfl ?_
  refine g_get X (q0 := 2) (v := .ref (ad 0)) 4 dX6_clearText_1 gC_X6 rfl rfl (by decide) fl_X6_32 rfl rfl ?_
  obtain ⟨o1, h2, hf⟩ := hfb hf
  refine g_Vi X (q0 := 0) (As := []) (rest := []) (liftT_i (i := 0) (by decide) (c_X0_empty (ad := rho (5 + 11 * 0) ad) h2)) dX6_clearText_4 ml_X6_166 yv_X0_empty rfl rfl rfl rfl ⟨Nat.le_of_ble_eq_true rfl, Nat.le_of_ble_eq_true rfl⟩ ⟨rfl, rfl⟩ (Nat.le_of_ble_eq_true rfl) ⟨Nat.le_of_ble_eq_true rfl, Nat.le_of_ble_eq_true rfl⟩ ?_
  exact g_iret X hr dX6_clearText_7 hf
def f_X6_count (x1 : Int32) (w : TT) : Option (Int32 × TT) := (if x1 = 10 then some (w.2.2 2, w) else (if x1 = 11 then some (w.2.1.1 0, w) else (if x1 = 12 then (if (w.2.2 0) = 0 then some (0, w) else some (1, w)) else (f_X5_tellNumber x1 (mix w 0)).bind fun o5 => some (o5.1, (put w 0 o5.2)))))
set_option maxRecDepth 100000 in
set_option maxHeartbeats 4000000 in
theorem c_X6_count {l : Launch} {D : va_G} {cI : ClassId × ClassId} {A : Nat → Prop} {ad : Nat → Nat} {x1 : Int32} {w : TT} {o : Int32 × TT} (hf : f_X6_count x1 w = some o) : CTi l D cI A yX6_count cX6_count 2 (some .int) rm_X6_count [.ref (ad 2), .int x1] ((wT ad cI) w) o.1 ((wT ad cI) o.2)   := by
  refine CTi.of (by decide +kernel) rfl (Nat.le_of_ble_eq_true rfl) ?_
  intro p e s m args below meth c X hr
  have X : gX p s m args meth c cX6_count 2 RX6 D cI := X
  show G _ _ _ _ _ _ _ _ _ _ _ _ _ _ _ _ _ 0 [some (.ref (ad 2)), some (.int x1)] [] w
  unfold f_X6_count at hf
  refine g_iload_n X (i := 1) dX6_count_0 rfl rfl ?_
  rcases hfi (q := x1 = 10) hf with ⟨c1, hf⟩ | ⟨c1, hf⟩
  · refine g_tableIn X dX6_count_1 (by rw [c1]; decide) (by rw [c1]; decide) (by rw [c1]; rfl) (tgt := 28) (by decide) ?_
    refine g_aload_n X (i := 0) dX6_count_28 rfl rfl ?_
    refine g_get X (q0 := 2) (v := .ref (ad 3)) 3 dX6_count_29 gC_X6 rfl rfl (by decide) fl_X6_25 rfl rfl ?_
    refine g_get X (q0 := 3) (v := .int (w.2.2 2)) 2 dX6_count_32 gC_X2 rfl rfl (by decide) fl_X6_114 rfl rfl ?_
    exact g_iret X hr dX6_count_35 hf
  rcases hfi (q := x1 = 11) hf with ⟨c2, hf⟩ | ⟨c2, hf⟩
  · refine g_tableIn X dX6_count_1 (by rw [c2]; decide) (by rw [c2]; decide) (by rw [c2]; rfl) (tgt := 36) (by decide) ?_
    refine g_aload_n X (i := 0) dX6_count_36 rfl rfl ?_
    refine g_get X (q0 := 2) (v := .ref (ad 0)) 4 dX6_count_37 gC_X6 rfl rfl (by decide) fl_X6_32 rfl rfl ?_
    refine g_get X (q0 := 0) (v := .int (w.2.1.1 0)) 1 dX6_count_40 gC_X0 rfl rfl (by decide) fl_X6_118 rfl rfl ?_
    exact g_iret X hr dX6_count_43 hf
  rcases hfi (q := x1 = 12) hf with ⟨c3, hf⟩ | ⟨c3, hf⟩
  · refine g_tableIn X dX6_count_1 (by rw [c3]; decide) (by rw [c3]; decide) (by rw [c3]; rfl) (tgt := 44) (by decide) ?_
    refine g_aload_n X (i := 0) dX6_count_44 rfl rfl ?_
    refine g_get X (q0 := 2) (v := .int (w.2.2 0)) 5 dX6_count_45 gC_X6 rfl rfl (by decide) fl_X6_36 rfl rfl ?_
    refine g_if_eq X dX6_count_48 (tgt := 55) (by decide) hf (fun c4 hf => ?_) (fun c4 hf => ?_)
    · refine g_iconst X dX6_count_55 (v := 0) (by decide) ?_
      exact g_iret X hr dX6_count_56 hf
    · refine g_iconst X dX6_count_51 (v := 1) (by decide) ?_
      refine g_goto X dX6_count_52 (tgt := 56) (by decide) ?_
      exact g_iret X hr dX6_count_56 hf
  refine g_tableOut X dX6_count_1 (sw_out x1 10 12 [10, 11, 12] rfl (List.forall_mem_cons.mpr ⟨c1, List.forall_mem_cons.mpr ⟨c2, List.forall_mem_cons.mpr ⟨c3, fun _ h => absurd h List.not_mem_nil⟩⟩⟩)) (tgt := 57) (by decide) ?_
  refine g_aload_n X (i := 0) dX6_count_57 rfl rfl ?_
  refine g_get X (q0 := 2) (v := .ref (ad 5)) 0 dX6_count_58 gC_X6 rfl rfl (by decide) fl_X6_10 rfl rfl ?_
  refine g_iload_n X (i := 1) dX6_count_61 rfl rfl ?_
  obtain ⟨o5, h6, hf⟩ := hfb hf
  refine g_Vi X (q0 := 5) (As := [.int x1]) (rest := []) (liftT_i (i := 0) (by decide) (c_X5_tellNumber (ad := rho (5 + 11 * 0) ad) h6)) dX6_count_62 ml_X6_121 yv_X5_tellNumber rfl rfl rfl rfl ⟨Nat.le_of_ble_eq_true rfl, Nat.le_of_ble_eq_true rfl⟩ ⟨rfl, rfl⟩ (Nat.le_of_ble_eq_true rfl) ⟨Nat.le_of_ble_eq_true rfl, Nat.le_of_ble_eq_true rfl⟩ ?_
  exact g_iret X hr dX6_count_65 hf
def f_X6_far (x1 : Int32) (w : TT) : Option (Int32 × TT) := (f_X1_has x1 (mix w 0)).bind fun o1 => (if o1.1 = 0 then some ((-11), (put w 0 o1.2)) else (f_X1_distanceTo x1 (mix (put w 0 o1.2) 0)).bind fun o4 => (if o4.1 = (-1) then some ((-14), (put (put w 0 o1.2) 0 o4.2)) else some (o4.1, (put (put w 0 o1.2) 0 o4.2))))
set_option maxRecDepth 100000 in
set_option maxHeartbeats 4000000 in
theorem c_X6_far {l : Launch} {D : va_G} {cI : ClassId × ClassId} {A : Nat → Prop} {ad : Nat → Nat} {x1 : Int32} {w : TT} {o : Int32 × TT} (hf : f_X6_far x1 w = some o) : CTi l D cI A yX6_far cX6_far 3 (some .int) rm_X6_far [.ref (ad 2), .int x1] ((wT ad cI) w) o.1 ((wT ad cI) o.2)   := by
  refine CTi.of (by decide +kernel) rfl (Nat.le_of_ble_eq_true rfl) ?_
  intro p e s m args below meth c X hr
  have X : gX p s m args meth c cX6_far 3 RX6 D cI := X
  show G _ _ _ _ _ _ _ _ _ _ _ _ _ _ _ _ _ 0 [some (.ref (ad 2)), some (.int x1), none] [] w
  unfold f_X6_far at hf
  refine g_aload_n X (i := 0) dX6_far_0 rfl rfl ?_
  refine g_get X (q0 := 2) (v := .ref (ad 5)) 0 dX6_far_1 gC_X6 rfl rfl (by decide) fl_X6_10 rfl rfl ?_
  refine g_get X (q0 := 5) (v := .ref (ad 6)) 0 dX6_far_4 gC_X5 rfl rfl (by decide) fl_X6_87 rfl rfl ?_
  refine g_iload_n X (i := 1) dX6_far_7 rfl rfl ?_
  obtain ⟨o1, h2, hf⟩ := hfb hf
  refine g_Vi X (q0 := 6) (As := [.int x1]) (rest := []) (liftT_i (i := 0) (by decide) (c_X1_has (ad := rho (5 + 11 * 0) ad) h2)) dX6_far_8 ml_X6_124 yv_X1_has rfl rfl rfl rfl ⟨Nat.le_of_ble_eq_true rfl, Nat.le_of_ble_eq_true rfl⟩ ⟨rfl, rfl⟩ (Nat.le_of_ble_eq_true rfl) ⟨Nat.le_of_ble_eq_true rfl, Nat.le_of_ble_eq_true rfl⟩ ?_
  refine g_if_ne X dX6_far_11 (tgt := 17) (by decide) hf (fun c3 hf => ?_) (fun c3 hf => ?_)
  · refine g_bipush X dX6_far_14 (v := (-11)) (by decide) ?_
    exact g_iret X hr dX6_far_16 hf
  · refine g_aload_n X (i := 0) dX6_far_17 rfl rfl ?_
    refine g_get X (q0 := 2) (v := .ref (ad 5)) 0 dX6_far_18 gC_X6 rfl rfl (by decide) fl_X6_10 rfl rfl ?_
    refine g_get X (q0 := 5) (v := .ref (ad 6)) 0 dX6_far_21 gC_X5 rfl rfl (by decide) fl_X6_87 rfl rfl ?_
    refine g_iload_n X (i := 1) dX6_far_24 rfl rfl ?_
    obtain ⟨o4, h5, hf⟩ := hfb hf
    refine g_Vi X (q0 := 6) (As := [.int x1]) (rest := []) (liftT_i (i := 0) (by decide) (c_X1_distanceTo (ad := rho (5 + 11 * 0) ad) h5)) dX6_far_25 ml_X6_128 yv_X1_distanceTo rfl rfl rfl rfl ⟨Nat.le_of_ble_eq_true rfl, Nat.le_of_ble_eq_true rfl⟩ ⟨rfl, rfl⟩ (Nat.le_of_ble_eq_true rfl) ⟨Nat.le_of_ble_eq_true rfl, Nat.le_of_ble_eq_true rfl⟩ ?_
    refine g_istore_n X (i := 2) dX6_far_28 rfl (by decide) rfl ?_
    refine g_iload_n X (i := 2) dX6_far_29 rfl rfl ?_
    refine g_iconst X dX6_far_30 (v := (-1)) (by decide) ?_
    refine g_icmp_ne X dX6_far_31 (tgt := 39) (by decide) hf (fun c6 hf => ?_) (fun c6 hf => ?_)
    · refine g_bipush X dX6_far_34 (v := (-14)) (by decide) ?_
      refine g_goto X dX6_far_36 (tgt := 40) (by decide) ?_
      exact g_iret X hr dX6_far_40 hf
    · refine g_iload_n X (i := 2) dX6_far_39 rfl rfl ?_
      exact g_iret X hr dX6_far_40 hf
def f_X6_fault (x1 : Int32) (w : TT) : Option (Int32 × TT) := (if x1 < 0 then some ((-11), w) else (if (2 : Int32) < x1 then some ((-11), w) else (f_X0_tryOn (mix (cpT w 1 0) 1)).bind fun o3 => (f_X0_tellFault x1 (mix (put (cpT w 1 0) 1 o3.2) 0)).bind fun o5 => some (o5.1, (put (put (cpT w 1 0) 1 o3.2) 0 o5.2))))
set_option maxRecDepth 100000 in
set_option maxHeartbeats 4000000 in
theorem c_X6_fault {l : Launch} {D : va_G} {cI : ClassId × ClassId} {A : Nat → Prop} {ad : Nat → Nat} {x1 : Int32} {w : TT} {o : Int32 × TT} (hf : f_X6_fault x1 w = some o) : CTi l D cI A yX6_fault cX6_fault 2 (some .int) rm_X6_fault [.ref (ad 2), .int x1] ((wT ad cI) w) o.1 ((wT ad cI) o.2)   := by
  refine CTi.of (by decide +kernel) rfl (Nat.le_of_ble_eq_true rfl) ?_
  intro p e s m args below meth c X hr
  have X : gX p s m args meth c cX6_fault 2 RX6 D cI := X
  show G _ _ _ _ _ _ _ _ _ _ _ _ _ _ _ _ _ 0 [some (.ref (ad 2)), some (.int x1)] [] w
  unfold f_X6_fault at hf
  refine g_iload_n X (i := 1) dX6_fault_0 rfl rfl ?_
  refine g_if_lt X dX6_fault_1 (tgt := 9) (by decide) hf (fun c1 hf => ?_) (fun c1 hf => ?_)
  · refine g_bipush X dX6_fault_9 (v := (-11)) (by decide) ?_
    exact g_iret X hr dX6_fault_11 hf
  · refine g_iload_n X (i := 1) dX6_fault_4 rfl rfl ?_
    refine g_iconst X dX6_fault_5 (v := 2) (by decide) ?_
    refine g_icmp_le X dX6_fault_6 (tgt := 12) (by decide) hf (fun c2 hf => ?_) (fun c2 hf => ?_)
    · refine g_bipush X dX6_fault_9 (v := (-11)) (by decide) ?_
      exact g_iret X hr dX6_fault_11 hf
    · refine g_aload_n X (i := 0) dX6_fault_12 rfl rfl ?_
      refine g_get X (q0 := 2) (v := .ref (ad 16)) 1 dX6_fault_13 gC_X6 rfl rfl (by decide) fl_X6_16 rfl rfl ?_
      refine g_aload_n X (i := 0) dX6_fault_16 rfl rfl ?_
      refine g_get X (q0 := 2) (v := .ref (ad 5)) 0 dX6_fault_17 gC_X6 rfl rfl (by decide) fl_X6_10 rfl rfl ?_
      refine g_Vv X (q0 := 16) (As := [.ref (ad 5)]) (rest := []) (c_cpT (i := 1) (j := 0) (by decide) (by decide) (by decide)) dX6_fault_20 ml_X6_143 yv_X5_copyFrom rfl rfl rfl rfl ⟨Nat.le_of_ble_eq_true rfl, Nat.le_of_ble_eq_true rfl⟩ ⟨rfl, rfl⟩ (Nat.le_of_ble_eq_true rfl) ⟨Nat.le_of_ble_eq_true rfl, Nat.le_of_ble_eq_true rfl⟩ ?_
      refine g_aload_n X (i := 0) dX6_fault_23 rfl rfl ?_
      refine g_get X (q0 := 2) (v := .ref (ad 0)) 4 dX6_fault_24 gC_X6 rfl rfl (by decide) fl_X6_32 rfl rfl ?_
      refine g_aload_n X (i := 0) dX6_fault_27 rfl rfl ?_
      refine g_get X (q0 := 2) (v := .ref (ad 16)) 1 dX6_fault_28 gC_X6 rfl rfl (by decide) fl_X6_16 rfl rfl ?_
      obtain ⟨o3, h4, hf⟩ := hfb hf
      refine g_Vv X (q0 := 0) (As := [.ref (ad 16)]) (rest := []) (liftT_v (i := 1) (by decide) (c_X0_tryOn (ad := rho (5 + 11 * 1) ad) h4)) dX6_fault_31 ml_X6_169 yv_X0_tryOn rfl rfl rfl rfl ⟨Nat.le_of_ble_eq_true rfl, Nat.le_of_ble_eq_true rfl⟩ ⟨rfl, rfl⟩ (Nat.le_of_ble_eq_true rfl) ⟨Nat.le_of_ble_eq_true rfl, Nat.le_of_ble_eq_true rfl⟩ ?_
      refine g_aload_n X (i := 0) dX6_fault_34 rfl rfl ?_
      refine g_get X (q0 := 2) (v := .ref (ad 0)) 4 dX6_fault_35 gC_X6 rfl rfl (by decide) fl_X6_32 rfl rfl ?_
      refine g_iload_n X (i := 1) dX6_fault_38 rfl rfl ?_
      obtain ⟨o5, h6, hf⟩ := hfb hf
      refine g_Vi X (q0 := 0) (As := [.int x1]) (rest := []) (liftT_i (i := 0) (by decide) (c_X0_tellFault (ad := rho (5 + 11 * 0) ad) h6)) dX6_fault_39 ml_X6_172 yv_X0_tellFault rfl rfl rfl rfl ⟨Nat.le_of_ble_eq_true rfl, Nat.le_of_ble_eq_true rfl⟩ ⟨rfl, rfl⟩ (Nat.le_of_ble_eq_true rfl) ⟨Nat.le_of_ble_eq_true rfl, Nat.le_of_ble_eq_true rfl⟩ ?_
      exact g_iret X hr dX6_fault_42 hf
def f_X6_field (x1 x2 x3 : Int32) (w : TT) : Option (Int32 × TT) := (f_X2_note w).bind fun o1 => (f_X5_writeField x1 x2 x3 (mix o1.2 0)).bind fun o3 => (f_X2_settle o3.1 (put o1.2 0 o3.2)).bind fun o5 => some (o5.1, o5.2)
set_option maxRecDepth 100000 in
set_option maxHeartbeats 4000000 in
theorem c_X6_field {l : Launch} {D : va_G} {cI : ClassId × ClassId} {A : Nat → Prop} {ad : Nat → Nat} {x1 x2 x3 : Int32} {w : TT} {o : Int32 × TT} (hf : f_X6_field x1 x2 x3 w = some o) : CTi l D cI A yX6_field cX6_field 4 (some .int) rm_X6_field [.ref (ad 2), .int x1, .int x2, .int x3] ((wT ad cI) w) o.1 ((wT ad cI) o.2)   := by
  refine CTi.of (by decide +kernel) rfl (Nat.le_of_ble_eq_true rfl) ?_
  intro p e s m args below meth c X hr
  have X : gX p s m args meth c cX6_field 4 RX6 D cI := X
  show G _ _ _ _ _ _ _ _ _ _ _ _ _ _ _ _ _ 0 [some (.ref (ad 2)), some (.int x1), some (.int x2), some (.int x3)] [] w
  unfold f_X6_field at hf
  refine g_aload_n X (i := 0) dX6_field_0 rfl rfl ?_
  refine g_get X (q0 := 2) (v := .ref (ad 3)) 3 dX6_field_1 gC_X6 rfl rfl (by decide) fl_X6_25 rfl rfl ?_
  refine g_aload_n X (i := 0) dX6_field_4 rfl rfl ?_
  refine g_get X (q0 := 2) (v := .ref (ad 5)) 0 dX6_field_5 gC_X6 rfl rfl (by decide) fl_X6_10 rfl rfl ?_
  obtain ⟨o1, h2, hf⟩ := hfb hf
  refine g_Vv X (q0 := 3) (As := [.ref (ad 5)]) (rest := []) (c_X2_note h2) dX6_field_8 ml_X6_40 yv_X2_note rfl rfl rfl rfl ⟨Nat.le_of_ble_eq_true rfl, Nat.le_of_ble_eq_true rfl⟩ ⟨rfl, rfl⟩ (Nat.le_of_ble_eq_true rfl) ⟨Nat.le_of_ble_eq_true rfl, Nat.le_of_ble_eq_true rfl⟩ ?_
  refine g_aload_n X (i := 0) dX6_field_11 rfl rfl ?_
  refine g_get X (q0 := 2) (v := .ref (ad 3)) 3 dX6_field_12 gC_X6 rfl rfl (by decide) fl_X6_25 rfl rfl ?_
  refine g_aload_n X (i := 0) dX6_field_15 rfl rfl ?_
  refine g_get X (q0 := 2) (v := .ref (ad 5)) 0 dX6_field_16 gC_X6 rfl rfl (by decide) fl_X6_10 rfl rfl ?_
  refine g_iload_n X (i := 1) dX6_field_19 rfl rfl ?_
  refine g_iload_n X (i := 2) dX6_field_20 rfl rfl ?_
  refine g_iload_n X (i := 3) dX6_field_21 rfl rfl ?_
  obtain ⟨o3, h4, hf⟩ := hfb hf
  refine g_Vi X (q0 := 5) (As := [.int x1, .int x2, .int x3]) (rest := [.ref (ad 3)]) (liftT_i (i := 0) (by decide) (c_X5_writeField (ad := rho (5 + 11 * 0) ad) h4)) dX6_field_22 ml_X6_51 yv_X5_writeField rfl rfl rfl rfl ⟨Nat.le_of_ble_eq_true rfl, Nat.le_of_ble_eq_true rfl⟩ ⟨rfl, rfl⟩ (Nat.le_of_ble_eq_true rfl) ⟨Nat.le_of_ble_eq_true rfl, Nat.le_of_ble_eq_true rfl⟩ ?_
  obtain ⟨o5, h6, hf⟩ := hfb hf
  refine g_Vi X (q0 := 3) (As := [.int o3.1]) (rest := []) (c_X2_settle h6) dX6_field_25 ml_X6_48 yv_X2_settle rfl rfl rfl rfl ⟨Nat.le_of_ble_eq_true rfl, Nat.le_of_ble_eq_true rfl⟩ ⟨rfl, rfl⟩ (Nat.le_of_ble_eq_true rfl) ⟨Nat.le_of_ble_eq_true rfl, Nat.le_of_ble_eq_true rfl⟩ ?_
  exact g_iret X hr dX6_field_28 hf
def f_X6_finish (x1 : Int32) (w : TT) : Option (Int32 × TT) := (f_X2_note w).bind fun o1 => (f_X5_finishFirst x1 (mix o1.2 0)).bind fun o3 => (f_X2_settle o3.1 (put o1.2 0 o3.2)).bind fun o5 => some (o5.1, o5.2)
set_option maxRecDepth 100000 in
set_option maxHeartbeats 4000000 in
theorem c_X6_finish {l : Launch} {D : va_G} {cI : ClassId × ClassId} {A : Nat → Prop} {ad : Nat → Nat} {x1 : Int32} {w : TT} {o : Int32 × TT} (hf : f_X6_finish x1 w = some o) : CTi l D cI A yX6_finish cX6_finish 2 (some .int) rm_X6_finish [.ref (ad 2), .int x1] ((wT ad cI) w) o.1 ((wT ad cI) o.2)   := by
  refine CTi.of (by decide +kernel) rfl (Nat.le_of_ble_eq_true rfl) ?_
  intro p e s m args below meth c X hr
  have X : gX p s m args meth c cX6_finish 2 RX6 D cI := X
  show G _ _ _ _ _ _ _ _ _ _ _ _ _ _ _ _ _ 0 [some (.ref (ad 2)), some (.int x1)] [] w
  unfold f_X6_finish at hf
  refine g_aload_n X (i := 0) dX6_finish_0 rfl rfl ?_
  refine g_get X (q0 := 2) (v := .ref (ad 3)) 3 dX6_finish_1 gC_X6 rfl rfl (by decide) fl_X6_25 rfl rfl ?_
  refine g_aload_n X (i := 0) dX6_finish_4 rfl rfl ?_
  refine g_get X (q0 := 2) (v := .ref (ad 5)) 0 dX6_finish_5 gC_X6 rfl rfl (by decide) fl_X6_10 rfl rfl ?_
  obtain ⟨o1, h2, hf⟩ := hfb hf
  refine g_Vv X (q0 := 3) (As := [.ref (ad 5)]) (rest := []) (c_X2_note h2) dX6_finish_8 ml_X6_40 yv_X2_note rfl rfl rfl rfl ⟨Nat.le_of_ble_eq_true rfl, Nat.le_of_ble_eq_true rfl⟩ ⟨rfl, rfl⟩ (Nat.le_of_ble_eq_true rfl) ⟨Nat.le_of_ble_eq_true rfl, Nat.le_of_ble_eq_true rfl⟩ ?_
  refine g_aload_n X (i := 0) dX6_finish_11 rfl rfl ?_
  refine g_get X (q0 := 2) (v := .ref (ad 3)) 3 dX6_finish_12 gC_X6 rfl rfl (by decide) fl_X6_25 rfl rfl ?_
  refine g_aload_n X (i := 0) dX6_finish_15 rfl rfl ?_
  refine g_get X (q0 := 2) (v := .ref (ad 5)) 0 dX6_finish_16 gC_X6 rfl rfl (by decide) fl_X6_10 rfl rfl ?_
  refine g_iload_n X (i := 1) dX6_finish_19 rfl rfl ?_
  obtain ⟨o3, h4, hf⟩ := hfb hf
  refine g_Vi X (q0 := 5) (As := [.int x1]) (rest := [.ref (ad 3)]) (liftT_i (i := 0) (by decide) (c_X5_finishFirst (ad := rho (5 + 11 * 0) ad) h4)) dX6_finish_20 ml_X6_68 yv_X5_finishFirst rfl rfl rfl rfl ⟨Nat.le_of_ble_eq_true rfl, Nat.le_of_ble_eq_true rfl⟩ ⟨rfl, rfl⟩ (Nat.le_of_ble_eq_true rfl) ⟨Nat.le_of_ble_eq_true rfl, Nat.le_of_ble_eq_true rfl⟩ ?_
  obtain ⟨o5, h6, hf⟩ := hfb hf
  refine g_Vi X (q0 := 3) (As := [.int o3.1]) (rest := []) (c_X2_settle h6) dX6_finish_23 ml_X6_48 yv_X2_settle rfl rfl rfl rfl ⟨Nat.le_of_ble_eq_true rfl, Nat.le_of_ble_eq_true rfl⟩ ⟨rfl, rfl⟩ (Nat.le_of_ble_eq_true rfl) ⟨Nat.le_of_ble_eq_true rfl, Nat.le_of_ble_eq_true rfl⟩ ?_
  exact g_iret X hr dX6_finish_26 hf
def f_X6_grey (x1 : Int32) (w : TT) : Option (Int32 × TT) := (if x1 < 0 then some ((-11), w) else (f_X3_at_6 x1 (mix w 0)).bind fun o2 => (if o2.1 = (-1) then some ((-14), (put w 0 o2.2)) else some (o2.1, (put w 0 o2.2))))
set_option maxRecDepth 100000 in
set_option maxHeartbeats 4000000 in
theorem c_X6_grey {l : Launch} {D : va_G} {cI : ClassId × ClassId} {A : Nat → Prop} {ad : Nat → Nat} {x1 : Int32} {w : TT} {o : Int32 × TT} (hf : f_X6_grey x1 w = some o) : CTi l D cI A yX6_grey cX6_grey 3 (some .int) rm_X6_grey [.ref (ad 2), .int x1] ((wT ad cI) w) o.1 ((wT ad cI) o.2)   := by
  refine CTi.of (by decide +kernel) rfl (Nat.le_of_ble_eq_true rfl) ?_
  intro p e s m args below meth c X hr
  have X : gX p s m args meth c cX6_grey 3 RX6 D cI := X
  show G _ _ _ _ _ _ _ _ _ _ _ _ _ _ _ _ _ 0 [some (.ref (ad 2)), some (.int x1), none] [] w
  unfold f_X6_grey at hf
  refine g_iload_n X (i := 1) dX6_grey_0 rfl rfl ?_
  refine g_if_ge X dX6_grey_1 (tgt := 7) (by decide) hf (fun c1 hf => ?_) (fun c1 hf => ?_)
  · refine g_bipush X dX6_grey_4 (v := (-11)) (by decide) ?_
    exact g_iret X hr dX6_grey_6 hf
  · refine g_aload_n X (i := 0) dX6_grey_7 rfl rfl ?_
    refine g_get X (q0 := 2) (v := .ref (ad 5)) 0 dX6_grey_8 gC_X6 rfl rfl (by decide) fl_X6_10 rfl rfl ?_
    refine g_get X (q0 := 5) (v := .ref (ad 7)) 1 dX6_grey_11 gC_X5 rfl rfl (by decide) fl_X6_96 rfl rfl ?_
    refine g_get X (q0 := 7) (v := .ref (ad 9)) 3 dX6_grey_14 gC_X4 rfl rfl (by decide) fl_X6_100 rfl rfl ?_
    refine g_iload_n X (i := 1) dX6_grey_17 rfl rfl ?_
    obtain ⟨o2, h3, hf⟩ := hfb hf
    refine g_Vi X (q0 := 9) (As := [.int x1]) (rest := []) (liftT_i (i := 0) (by decide) (c_X3_at_6 (ad := rho (5 + 11 * 0) ad) h3)) dX6_grey_18 ml_X6_106 yv_X3_at rfl rfl rfl rfl ⟨Nat.le_of_ble_eq_true rfl, Nat.le_of_ble_eq_true rfl⟩ ⟨rfl, rfl⟩ (Nat.le_of_ble_eq_true rfl) ⟨Nat.le_of_ble_eq_true rfl, Nat.le_of_ble_eq_true rfl⟩ ?_
    refine g_istore_n X (i := 2) dX6_grey_21 rfl (by decide) rfl ?_
    refine g_iload_n X (i := 2) dX6_grey_22 rfl rfl ?_
    refine g_iconst X dX6_grey_23 (v := (-1)) (by decide) ?_
    refine g_icmp_ne X dX6_grey_24 (tgt := 32) (by decide) hf (fun c4 hf => ?_) (fun c4 hf => ?_)
    · refine g_bipush X dX6_grey_27 (v := (-14)) (by decide) ?_
      refine g_goto X dX6_grey_29 (tgt := 33) (by decide) ?_
      exact g_iret X hr dX6_grey_33 hf
    · refine g_iload_n X (i := 2) dX6_grey_32 rfl rfl ?_
      exact g_iret X hr dX6_grey_33 hf
def f_X6_hangs (x1 : Int32) (w : TT) : Option (Int32 × TT) := (f_X1_has x1 (mix w 0)).bind fun o1 => (if o1.1 = 0 then some ((-11), (put w 0 o1.2)) else (f_X1_reachedByRoots (mix (put w 0 o1.2) 0)).bind fun o4 => (f_X6_bit x1 (put (put w 0 o1.2) 0 o4.2)).bind fun o6 => (if (o4.1 &&& o6.1) = 0 then some ((-12), o6.2) else (f_X1_setOfRoots (mix o6.2 0)).bind fun o9 => (f_X6_bit x1 (put o6.2 0 o9.2)).bind fun o11 => (f_X1_reachedFrom o9.1 o11.1 (mix o11.2 0)).bind fun o13 => some (o4.1 &&& (o13.1 ^^^ (-1)), (put o11.2 0 o13.2))))
set_option maxRecDepth 100000 in
set_option maxHeartbeats 4000000 in
theorem c_X6_hangs {l : Launch} {D : va_G} {cI : ClassId × ClassId} {A : Nat → Prop} {ad : Nat → Nat} {x1 : Int32} {w : TT} {o : Int32 × TT} (hf : f_X6_hangs x1 w = some o) : CTi l D cI A yX6_hangs cX6_hangs 4 (some .int) rm_X6_hangs [.ref (ad 2), .int x1] ((wT ad cI) w) o.1 ((wT ad cI) o.2)   := by
  refine CTi.of (by decide +kernel) rfl (Nat.le_of_ble_eq_true rfl) ?_
  intro p e s m args below meth c X hr
  have X : gX p s m args meth c cX6_hangs 4 RX6 D cI := X
  show G _ _ _ _ _ _ _ _ _ _ _ _ _ _ _ _ _ 0 [some (.ref (ad 2)), some (.int x1), none, none] [] w
  unfold f_X6_hangs at hf
  refine g_aload_n X (i := 0) dX6_hangs_0 rfl rfl ?_
  refine g_get X (q0 := 2) (v := .ref (ad 5)) 0 dX6_hangs_1 gC_X6 rfl rfl (by decide) fl_X6_10 rfl rfl ?_
  refine g_get X (q0 := 5) (v := .ref (ad 6)) 0 dX6_hangs_4 gC_X5 rfl rfl (by decide) fl_X6_87 rfl rfl ?_
  refine g_astore_n X (i := 2) dX6_hangs_7 rfl (by decide) rfl ?_
  refine g_aload_n X (i := 2) dX6_hangs_8 rfl rfl ?_
  refine g_iload_n X (i := 1) dX6_hangs_9 rfl rfl ?_
  obtain ⟨o1, h2, hf⟩ := hfb hf
  refine g_Vi X (q0 := 6) (As := [.int x1]) (rest := []) (liftT_i (i := 0) (by decide) (c_X1_has (ad := rho (5 + 11 * 0) ad) h2)) dX6_hangs_10 ml_X6_124 yv_X1_has rfl rfl rfl rfl ⟨Nat.le_of_ble_eq_true rfl, Nat.le_of_ble_eq_true rfl⟩ ⟨rfl, rfl⟩ (Nat.le_of_ble_eq_true rfl) ⟨Nat.le_of_ble_eq_true rfl, Nat.le_of_ble_eq_true rfl⟩ ?_
  refine g_if_ne X dX6_hangs_13 (tgt := 19) (by decide) hf (fun c3 hf => ?_) (fun c3 hf => ?_)
  · refine g_bipush X dX6_hangs_16 (v := (-11)) (by decide) ?_
    exact g_iret X hr dX6_hangs_18 hf
  · refine g_aload_n X (i := 2) dX6_hangs_19 rfl rfl ?_
    obtain ⟨o4, h5, hf⟩ := hfb hf
    refine g_Vi X (q0 := 6) (As := []) (rest := []) (liftT_i (i := 0) (by decide) (c_X1_reachedByRoots (ad := rho (5 + 11 * 0) ad) h5)) dX6_hangs_20 ml_X6_131 yv_X1_reachedByRoots rfl rfl rfl rfl ⟨Nat.le_of_ble_eq_true rfl, Nat.le_of_ble_eq_true rfl⟩ ⟨rfl, rfl⟩ (Nat.le_of_ble_eq_true rfl) ⟨Nat.le_of_ble_eq_true rfl, Nat.le_of_ble_eq_true rfl⟩ ?_
    refine g_istore_n X (i := 3) dX6_hangs_23 rfl (by decide) rfl ?_
    refine g_iload_n X (i := 3) dX6_hangs_24 rfl rfl ?_
    refine g_iload_n X (i := 1) dX6_hangs_25 rfl rfl ?_
    obtain ⟨o6, h7, hf⟩ := hfb hf
    refine g_Si X (As := [.int x1]) (rest := [.int o4.1]) (c_X6_bit (wf := (wT ad cI)) h7) dX6_hangs_26 ml_X6_134 yv_X6_bit rfl rfl ⟨Nat.le_of_ble_eq_true rfl, Nat.le_of_ble_eq_true rfl⟩ ⟨rfl, rfl⟩ (Nat.le_of_ble_eq_true rfl) ⟨Nat.le_of_ble_eq_true rfl, Nat.le_of_ble_eq_true rfl⟩ ?_
    refine g_iand X dX6_hangs_29 ?_
    refine g_if_ne X dX6_hangs_30 (tgt := 36) (by decide) hf (fun c8 hf => ?_) (fun c8 hf => ?_)
    · refine g_bipush X dX6_hangs_33 (v := (-12)) (by decide) ?_
      exact g_iret X hr dX6_hangs_35 hf
    · refine g_iload_n X (i := 3) dX6_hangs_36 rfl rfl ?_
      refine g_aload_n X (i := 2) dX6_hangs_37 rfl rfl ?_
      refine g_aload_n X (i := 2) dX6_hangs_38 rfl rfl ?_
      obtain ⟨o9, h10, hf⟩ := hfb hf
      refine g_Vi X (q0 := 6) (As := []) (rest := [.ref (ad 6), .int o4.1]) (liftT_i (i := 0) (by decide) (c_X1_setOfRoots (ad := rho (5 + 11 * 0) ad) h10)) dX6_hangs_39 ml_X6_137 yv_X1_setOfRoots rfl rfl rfl rfl ⟨Nat.le_of_ble_eq_true rfl, Nat.le_of_ble_eq_true rfl⟩ ⟨rfl, rfl⟩ (Nat.le_of_ble_eq_true rfl) ⟨Nat.le_of_ble_eq_true rfl, Nat.le_of_ble_eq_true rfl⟩ ?_
      refine g_iload_n X (i := 1) dX6_hangs_42 rfl rfl ?_
      obtain ⟨o11, h12, hf⟩ := hfb hf
      refine g_Si X (As := [.int x1]) (rest := [.int o9.1, .ref (ad 6), .int o4.1]) (c_X6_bit (wf := (wT ad cI)) h12) dX6_hangs_43 ml_X6_134 yv_X6_bit rfl rfl ⟨Nat.le_of_ble_eq_true rfl, Nat.le_of_ble_eq_true rfl⟩ ⟨rfl, rfl⟩ (Nat.le_of_ble_eq_true rfl) ⟨Nat.le_of_ble_eq_true rfl, Nat.le_of_ble_eq_true rfl⟩ ?_
      obtain ⟨o13, h14, hf⟩ := hfb hf
      refine g_Vi X (q0 := 6) (As := [.int o9.1, .int o11.1]) (rest := [.int o4.1]) (liftT_i (i := 0) (by decide) (c_X1_reachedFrom (ad := rho (5 + 11 * 0) ad) h14)) dX6_hangs_46 ml_X6_140 yv_X1_reachedFrom rfl rfl rfl rfl ⟨Nat.le_of_ble_eq_true rfl, Nat.le_of_ble_eq_true rfl⟩ ⟨rfl, rfl⟩ (Nat.le_of_ble_eq_true rfl) ⟨Nat.le_of_ble_eq_true rfl, Nat.le_of_ble_eq_true rfl⟩ ?_
      refine g_iconst X dX6_hangs_49 (v := (-1)) (by decide) ?_
      refine g_ixor X dX6_hangs_50 ?_
      refine g_iand X dX6_hangs_51 ?_
      exact g_iret X hr dX6_hangs_52 hf
def f_X6_keep (w : TT) : Option (Int32 × TT) := (f_X1_size (mix (tR (cpT w 2 0) 0 1) 0)).bind fun o1 => some (o1.1, (put (tR (cpT w 2 0) 0 1) 0 o1.2))
set_option maxRecDepth 100000 in
set_option maxHeartbeats 4000000 in
theorem c_X6_keep {l : Launch} {D : va_G} {cI : ClassId × ClassId} {A : Nat → Prop} {ad : Nat → Nat} {w : TT} {o : Int32 × TT} (hf : f_X6_keep w = some o) : CTi l D cI A yX6_keep cX6_keep 1 (some .int) rm_X6_keep [.ref (ad 2)] ((wT ad cI) w) o.1 ((wT ad cI) o.2)   := by
  refine CTi.of (by decide +kernel) rfl (Nat.le_of_ble_eq_true rfl) ?_
  intro p e s m args below meth c X hr
  have X : gX p s m args meth c cX6_keep 1 RX6 D cI := X
  show G _ _ _ _ _ _ _ _ _ _ _ _ _ _ _ _ _ 0 [some (.ref (ad 2))] [] w
  unfold f_X6_keep at hf
  refine g_aload_n X (i := 0) dX6_keep_0 rfl rfl ?_
  refine g_get X (q0 := 2) (v := .ref (ad 27)) 2 dX6_keep_1 gC_X6 rfl rfl (by decide) fl_X6_19 rfl rfl ?_
  refine g_aload_n X (i := 0) dX6_keep_4 rfl rfl ?_
  refine g_get X (q0 := 2) (v := .ref (ad 5)) 0 dX6_keep_5 gC_X6 rfl rfl (by decide) fl_X6_10 rfl rfl ?_
  refine g_Vv X (q0 := 27) (As := [.ref (ad 5)]) (rest := []) (c_cpT (i := 2) (j := 0) (by decide) (by decide) (by decide)) dX6_keep_8 ml_X6_143 yv_X5_copyFrom rfl rfl rfl rfl ⟨Nat.le_of_ble_eq_true rfl, Nat.le_of_ble_eq_true rfl⟩ ⟨rfl, rfl⟩ (Nat.le_of_ble_eq_true rfl) ⟨Nat.le_of_ble_eq_true rfl, Nat.le_of_ble_eq_true rfl⟩ ?_
  refine g_aload_n X (i := 0) dX6_keep_11 rfl rfl ?_
  refine g_iconst X dX6_keep_12 (v := 1) (by decide) ?_
  refine g_put X (q0 := 2) 5 dX6_keep_13 gC_X6 rfl rfl (by decide) fl_X6_36 rfl rfl rfl rfl (Nat.le_of_ble_eq_true rfl) (pwT_0 ad cI _ _) ?_
  refine g_aload_n X (i := 0) dX6_keep_16 rfl rfl ?_
  refine g_get X (q0 := 2) (v := .ref (ad 5)) 0 dX6_keep_17 gC_X6 rfl rfl (by decide) fl_X6_10 rfl rfl ?_
  refine g_get X (q0 := 5) (v := .ref (ad 6)) 0 dX6_keep_20 gC_X5 rfl rfl (by decide) fl_X6_87 rfl rfl ?_
  obtain ⟨o1, h2, hf⟩ := hfb hf
  refine g_Vi X (q0 := 6) (As := []) (rest := []) (liftT_i (i := 0) (by decide) (c_X1_size (ad := rho (5 + 11 * 0) ad) h2)) dX6_keep_23 ml_X6_157 yv_X1_size rfl rfl rfl rfl ⟨Nat.le_of_ble_eq_true rfl, Nat.le_of_ble_eq_true rfl⟩ ⟨rfl, rfl⟩ (Nat.le_of_ble_eq_true rfl) ⟨Nat.le_of_ble_eq_true rfl, Nat.le_of_ble_eq_true rfl⟩ ?_
  exact g_iret X hr dX6_keep_26 hf
def f_X6_late (w : TT) : Option (Int32 × TT) := (f_X5_lateOnes (mix w 0)).bind fun o1 => (f_J6_bitCount_0f7a4 o1.1 (put w 0 o1.2)).bind fun o3 => some (o3.1, o3.2)
set_option maxRecDepth 100000 in
set_option maxHeartbeats 4000000 in
theorem c_X6_late {l : Launch} {D : va_G} {cI : ClassId × ClassId} {A : Nat → Prop} {ad : Nat → Nat} {w : TT} {o : Int32 × TT} (hf : f_X6_late w = some o) : CTi l D cI A yX6_late cX6_late 1 (some .int) rm_X6_late [.ref (ad 2)] ((wT ad cI) w) o.1 ((wT ad cI) o.2)   := by
  refine CTi.of (by decide +kernel) rfl (Nat.le_of_ble_eq_true rfl) ?_
  intro p e s m args below meth c X hr
  have X : gX p s m args meth c cX6_late 1 RX6 D cI := X
  show G _ _ _ _ _ _ _ _ _ _ _ _ _ _ _ _ _ 0 [some (.ref (ad 2))] [] w
  unfold f_X6_late at hf
  refine g_aload_n X (i := 0) dX6_late_0 rfl rfl ?_
  refine g_get X (q0 := 2) (v := .ref (ad 5)) 0 dX6_late_1 gC_X6 rfl rfl (by decide) fl_X6_10 rfl rfl ?_
  obtain ⟨o1, h2, hf⟩ := hfb hf
  refine g_Vi X (q0 := 5) (As := []) (rest := []) (liftT_i (i := 0) (by decide) (c_X5_lateOnes (ad := rho (5 + 11 * 0) ad) h2)) dX6_late_4 ml_X6_149 yv_X5_lateOnes rfl rfl rfl rfl ⟨Nat.le_of_ble_eq_true rfl, Nat.le_of_ble_eq_true rfl⟩ ⟨rfl, rfl⟩ (Nat.le_of_ble_eq_true rfl) ⟨Nat.le_of_ble_eq_true rfl, Nat.le_of_ble_eq_true rfl⟩ ?_
  obtain ⟨o3, h4, hf⟩ := hfb hf
  refine g_Si X (As := [.int o1.1]) (rest := []) (c_J6_bitCount_0f7a4 (wf := (wT ad cI)) h4) dX6_late_7 ml_X6_152 yv_J6_bitCount_0f7a4 rfl rfl ⟨Nat.le_of_ble_eq_true rfl, Nat.le_of_ble_eq_true rfl⟩ ⟨rfl, rfl⟩ (Nat.le_of_ble_eq_true rfl) ⟨Nat.le_of_ble_eq_true rfl, Nat.le_of_ble_eq_true rfl⟩ ?_
  exact g_iret X hr dX6_late_10 hf
def f_X6_make (x1 : Int32) (w : TT) : Option (Int32 × TT) := (f_X2_note w).bind fun o1 => (f_X5_create x1 (mix o1.2 0)).bind fun o3 => (f_X2_settle o3.1 (put o1.2 0 o3.2)).bind fun o5 => some (o5.1, o5.2)
set_option maxRecDepth 100000 in
set_option maxHeartbeats 4000000 in
theorem c_X6_make {l : Launch} {D : va_G} {cI : ClassId × ClassId} {A : Nat → Prop} {ad : Nat → Nat} {x1 : Int32} {w : TT} {o : Int32 × TT} (hf : f_X6_make x1 w = some o) : CTi l D cI A yX6_make cX6_make 2 (some .int) rm_X6_make [.ref (ad 2), .int x1] ((wT ad cI) w) o.1 ((wT ad cI) o.2)   := by
  refine CTi.of (by decide +kernel) rfl (Nat.le_of_ble_eq_true rfl) ?_
  intro p e s m args below meth c X hr
  have X : gX p s m args meth c cX6_make 2 RX6 D cI := X
  show G _ _ _ _ _ _ _ _ _ _ _ _ _ _ _ _ _ 0 [some (.ref (ad 2)), some (.int x1)] [] w
  unfold f_X6_make at hf
  refine g_aload_n X (i := 0) dX6_make_0 rfl rfl ?_
  refine g_get X (q0 := 2) (v := .ref (ad 3)) 3 dX6_make_1 gC_X6 rfl rfl (by decide) fl_X6_25 rfl rfl ?_
  refine g_aload_n X (i := 0) dX6_make_4 rfl rfl ?_
  refine g_get X (q0 := 2) (v := .ref (ad 5)) 0 dX6_make_5 gC_X6 rfl rfl (by decide) fl_X6_10 rfl rfl ?_
  obtain ⟨o1, h2, hf⟩ := hfb hf
  refine g_Vv X (q0 := 3) (As := [.ref (ad 5)]) (rest := []) (c_X2_note h2) dX6_make_8 ml_X6_40 yv_X2_note rfl rfl rfl rfl ⟨Nat.le_of_ble_eq_true rfl, Nat.le_of_ble_eq_true rfl⟩ ⟨rfl, rfl⟩ (Nat.le_of_ble_eq_true rfl) ⟨Nat.le_of_ble_eq_true rfl, Nat.le_of_ble_eq_true rfl⟩ ?_
  refine g_aload_n X (i := 0) dX6_make_11 rfl rfl ?_
  refine g_get X (q0 := 2) (v := .ref (ad 3)) 3 dX6_make_12 gC_X6 rfl rfl (by decide) fl_X6_25 rfl rfl ?_
  refine g_aload_n X (i := 0) dX6_make_15 rfl rfl ?_
  refine g_get X (q0 := 2) (v := .ref (ad 5)) 0 dX6_make_16 gC_X6 rfl rfl (by decide) fl_X6_10 rfl rfl ?_
  refine g_iload_n X (i := 1) dX6_make_19 rfl rfl ?_
  obtain ⟨o3, h4, hf⟩ := hfb hf
  refine g_Vi X (q0 := 5) (As := [.int x1]) (rest := [.ref (ad 3)]) (liftT_i (i := 0) (by decide) (c_X5_create (ad := rho (5 + 11 * 0) ad) h4)) dX6_make_20 ml_X6_44 yv_X5_create rfl rfl rfl rfl ⟨Nat.le_of_ble_eq_true rfl, Nat.le_of_ble_eq_true rfl⟩ ⟨rfl, rfl⟩ (Nat.le_of_ble_eq_true rfl) ⟨Nat.le_of_ble_eq_true rfl, Nat.le_of_ble_eq_true rfl⟩ ?_
  obtain ⟨o5, h6, hf⟩ := hfb hf
  refine g_Vi X (q0 := 3) (As := [.int o3.1]) (rest := []) (c_X2_settle h6) dX6_make_23 ml_X6_48 yv_X2_settle rfl rfl rfl rfl ⟨Nat.le_of_ble_eq_true rfl, Nat.le_of_ble_eq_true rfl⟩ ⟨rfl, rfl⟩ (Nat.le_of_ble_eq_true rfl) ⟨Nat.le_of_ble_eq_true rfl, Nat.le_of_ble_eq_true rfl⟩ ?_
  exact g_iret X hr dX6_make_26 hf
def f_X6_objectOf (x1 x2 : Int32) (w : TT) : Option (Int32 × TT) := (f_X5_tellObject x1 x2 (mix w 0)).bind fun o1 => some (o1.1, (put w 0 o1.2))
set_option maxRecDepth 100000 in
set_option maxHeartbeats 4000000 in
theorem c_X6_objectOf {l : Launch} {D : va_G} {cI : ClassId × ClassId} {A : Nat → Prop} {ad : Nat → Nat} {x1 x2 : Int32} {w : TT} {o : Int32 × TT} (hf : f_X6_objectOf x1 x2 w = some o) : CTi l D cI A yX6_objectOf cX6_objectOf 3 (some .int) rm_X6_objectOf [.ref (ad 2), .int x1, .int x2] ((wT ad cI) w) o.1 ((wT ad cI) o.2)   := by
  refine CTi.of (by decide +kernel) rfl (Nat.le_of_ble_eq_true rfl) ?_
  intro p e s m args below meth c X hr
  have X : gX p s m args meth c cX6_objectOf 3 RX6 D cI := X
  show G _ _ _ _ _ _ _ _ _ _ _ _ _ _ _ _ _ 0 [some (.ref (ad 2)), some (.int x1), some (.int x2)] [] w
  unfold f_X6_objectOf at hf
  refine g_aload_n X (i := 0) dX6_objectOf_0 rfl rfl ?_
  refine g_get X (q0 := 2) (v := .ref (ad 5)) 0 dX6_objectOf_1 gC_X6 rfl rfl (by decide) fl_X6_10 rfl rfl ?_
  refine g_iload_n X (i := 1) dX6_objectOf_4 rfl rfl ?_
  refine g_iload_n X (i := 2) dX6_objectOf_5 rfl rfl ?_
  obtain ⟨o1, h2, hf⟩ := hfb hf
  refine g_Vi X (q0 := 5) (As := [.int x1, .int x2]) (rest := []) (liftT_i (i := 0) (by decide) (c_X5_tellObject (ad := rho (5 + 11 * 0) ad) h2)) dX6_objectOf_6 ml_X6_84 yv_X5_tellObject rfl rfl rfl rfl ⟨Nat.le_of_ble_eq_true rfl, Nat.le_of_ble_eq_true rfl⟩ ⟨rfl, rfl⟩ (Nat.le_of_ble_eq_true rfl) ⟨Nat.le_of_ble_eq_true rfl, Nat.le_of_ble_eq_true rfl⟩ ?_
  exact g_iret X hr dX6_objectOf_9 hf
def f_X6_objects (x1 : Int32) (w : TT) : Option (Int32 × TT) := (f_X5_tellSet x1 (mix w 0)).bind fun o1 => some (o1.1, (put w 0 o1.2))
set_option maxRecDepth 100000 in
set_option maxHeartbeats 4000000 in
theorem c_X6_objects {l : Launch} {D : va_G} {cI : ClassId × ClassId} {A : Nat → Prop} {ad : Nat → Nat} {x1 : Int32} {w : TT} {o : Int32 × TT} (hf : f_X6_objects x1 w = some o) : CTi l D cI A yX6_objects cX6_objects 2 (some .int) rm_X6_objects [.ref (ad 2), .int x1] ((wT ad cI) w) o.1 ((wT ad cI) o.2)   := by
  refine CTi.of (by decide +kernel) rfl (Nat.le_of_ble_eq_true rfl) ?_
  intro p e s m args below meth c X hr
  have X : gX p s m args meth c cX6_objects 2 RX6 D cI := X
  show G _ _ _ _ _ _ _ _ _ _ _ _ _ _ _ _ _ 0 [some (.ref (ad 2)), some (.int x1)] [] w
  unfold f_X6_objects at hf
  refine g_aload_n X (i := 0) dX6_objects_0 rfl rfl ?_
  refine g_get X (q0 := 2) (v := .ref (ad 5)) 0 dX6_objects_1 gC_X6 rfl rfl (by decide) fl_X6_10 rfl rfl ?_
  refine g_iload_n X (i := 1) dX6_objects_4 rfl rfl ?_
  obtain ⟨o1, h2, hf⟩ := hfb hf
  refine g_Vi X (q0 := 5) (As := [.int x1]) (rest := []) (liftT_i (i := 0) (by decide) (c_X5_tellSet (ad := rho (5 + 11 * 0) ad) h2)) dX6_objects_5 ml_X6_111 yv_X5_tellSet rfl rfl rfl rfl ⟨Nat.le_of_ble_eq_true rfl, Nat.le_of_ble_eq_true rfl⟩ ⟨rfl, rfl⟩ (Nat.le_of_ble_eq_true rfl) ⟨Nat.le_of_ble_eq_true rfl, Nat.le_of_ble_eq_true rfl⟩ ?_
  exact g_iret X hr dX6_objects_8 hf
def f_X6_play (w : TT) : Option (Int32 × TT) := (f_X0_tryOn (mix (cpT w 1 0) 1)).bind fun o1 => (if ((put (cpT w 1 0) 1 o1.2).2.1.1 8) = 0 then (f_X2_note (put (cpT w 1 0) 1 o1.2)).bind fun o4 => (f_X2_settle ((cpT o4.2 0 1).2.1.1 6) (cpT o4.2 0 1)).bind fun o6 => some (o6.1, o6.2) else some ((-12), (put (cpT w 1 0) 1 o1.2)))
set_option maxRecDepth 100000 in
set_option maxHeartbeats 4000000 in
theorem c_X6_play {l : Launch} {D : va_G} {cI : ClassId × ClassId} {A : Nat → Prop} {ad : Nat → Nat} {w : TT} {o : Int32 × TT} (hf : f_X6_play w = some o) : CTi l D cI A yX6_play cX6_play 1 (some .int) rm_X6_play [.ref (ad 2)] ((wT ad cI) w) o.1 ((wT ad cI) o.2)   := by
  refine CTi.of (by decide +kernel) rfl (Nat.le_of_ble_eq_true rfl) ?_
  intro p e s m args below meth c X hr
  have X : gX p s m args meth c cX6_play 1 RX6 D cI := X
  show G _ _ _ _ _ _ _ _ _ _ _ _ _ _ _ _ _ 0 [some (.ref (ad 2))] [] w
  unfold f_X6_play at hf
  refine g_aload_n X (i := 0) dX6_play_0 rfl rfl ?_
  refine g_get X (q0 := 2) (v := .ref (ad 16)) 1 dX6_play_1 gC_X6 rfl rfl (by decide) fl_X6_16 rfl rfl ?_
  refine g_aload_n X (i := 0) dX6_play_4 rfl rfl ?_
  refine g_get X (q0 := 2) (v := .ref (ad 5)) 0 dX6_play_5 gC_X6 rfl rfl (by decide) fl_X6_10 rfl rfl ?_
  refine g_Vv X (q0 := 16) (As := [.ref (ad 5)]) (rest := []) (c_cpT (i := 1) (j := 0) (by decide) (by decide) (by decide)) dX6_play_8 ml_X6_143 yv_X5_copyFrom rfl rfl rfl rfl ⟨Nat.le_of_ble_eq_true rfl, Nat.le_of_ble_eq_true rfl⟩ ⟨rfl, rfl⟩ (Nat.le_of_ble_eq_true rfl) ⟨Nat.le_of_ble_eq_true rfl, Nat.le_of_ble_eq_true rfl⟩ ?_
  refine g_aload_n X (i := 0) dX6_play_11 rfl rfl ?_
  refine g_get X (q0 := 2) (v := .ref (ad 0)) 4 dX6_play_12 gC_X6 rfl rfl (by decide) fl_X6_32 rfl rfl ?_
  refine g_aload_n X (i := 0) dX6_play_15 rfl rfl ?_
  refine g_get X (q0 := 2) (v := .ref (ad 16)) 1 dX6_play_16 gC_X6 rfl rfl (by decide) fl_X6_16 rfl rfl ?_
  obtain ⟨o1, h2, hf⟩ := hfb hf
  refine g_Vv X (q0 := 0) (As := [.ref (ad 16)]) (rest := []) (liftT_v (i := 1) (by decide) (c_X0_tryOn (ad := rho (5 + 11 * 1) ad) h2)) dX6_play_19 ml_X6_169 yv_X0_tryOn rfl rfl rfl rfl ⟨Nat.le_of_ble_eq_true rfl, Nat.le_of_ble_eq_true rfl⟩ ⟨rfl, rfl⟩ (Nat.le_of_ble_eq_true rfl) ⟨Nat.le_of_ble_eq_true rfl, Nat.le_of_ble_eq_true rfl⟩ ?_
  refine g_aload_n X (i := 0) dX6_play_22 rfl rfl ?_
  refine g_get X (q0 := 2) (v := .ref (ad 0)) 4 dX6_play_23 gC_X6 rfl rfl (by decide) fl_X6_32 rfl rfl ?_
  refine g_get X (q0 := 0) (v := .int ((put (cpT w 1 0) 1 o1.2).2.1.1 8)) 9 dX6_play_26 gC_X0 rfl rfl (by decide) fl_X6_175 rfl rfl ?_
  refine g_if_eq X dX6_play_29 (tgt := 35) (by decide) hf (fun c3 hf => ?_) (fun c3 hf => ?_)
  · refine g_aload_n X (i := 0) dX6_play_35 rfl rfl ?_
    refine g_get X (q0 := 2) (v := .ref (ad 3)) 3 dX6_play_36 gC_X6 rfl rfl (by decide) fl_X6_25 rfl rfl ?_
    refine g_aload_n X (i := 0) dX6_play_39 rfl rfl ?_
    refine g_get X (q0 := 2) (v := .ref (ad 5)) 0 dX6_play_40 gC_X6 rfl rfl (by decide) fl_X6_10 rfl rfl ?_
    obtain ⟨o4, h5, hf⟩ := hfb hf
    refine g_Vv X (q0 := 3) (As := [.ref (ad 5)]) (rest := []) (c_X2_note h5) dX6_play_43 ml_X6_40 yv_X2_note rfl rfl rfl rfl ⟨Nat.le_of_ble_eq_true rfl, Nat.le_of_ble_eq_true rfl⟩ ⟨rfl, rfl⟩ (Nat.le_of_ble_eq_true rfl) ⟨Nat.le_of_ble_eq_true rfl, Nat.le_of_ble_eq_true rfl⟩ ?_
    refine g_aload_n X (i := 0) dX6_play_46 rfl rfl ?_
    refine g_get X (q0 := 2) (v := .ref (ad 5)) 0 dX6_play_47 gC_X6 rfl rfl (by decide) fl_X6_10 rfl rfl ?_
    refine g_aload_n X (i := 0) dX6_play_50 rfl rfl ?_
    refine g_get X (q0 := 2) (v := .ref (ad 16)) 1 dX6_play_51 gC_X6 rfl rfl (by decide) fl_X6_16 rfl rfl ?_
    refine g_Vv X (q0 := 5) (As := [.ref (ad 16)]) (rest := []) (c_cpT (i := 0) (j := 1) (by decide) (by decide) (by decide)) dX6_play_54 ml_X6_143 yv_X5_copyFrom rfl rfl rfl rfl ⟨Nat.le_of_ble_eq_true rfl, Nat.le_of_ble_eq_true rfl⟩ ⟨rfl, rfl⟩ (Nat.le_of_ble_eq_true rfl) ⟨Nat.le_of_ble_eq_true rfl, Nat.le_of_ble_eq_true rfl⟩ ?_
    refine g_aload_n X (i := 0) dX6_play_57 rfl rfl ?_
    refine g_get X (q0 := 2) (v := .ref (ad 3)) 3 dX6_play_58 gC_X6 rfl rfl (by decide) fl_X6_25 rfl rfl ?_
    refine g_aload_n X (i := 0) dX6_play_61 rfl rfl ?_
    refine g_get X (q0 := 2) (v := .ref (ad 0)) 4 dX6_play_62 gC_X6 rfl rfl (by decide) fl_X6_32 rfl rfl ?_
    refine g_get X (q0 := 0) (v := .int ((cpT o4.2 0 1).2.1.1 6)) 7 dX6_play_65 gC_X0 rfl rfl (by decide) fl_X6_178 rfl rfl ?_
    obtain ⟨o6, h7, hf⟩ := hfb hf
    refine g_Vi X (q0 := 3) (As := [.int ((cpT o4.2 0 1).2.1.1 6)]) (rest := []) (c_X2_settle h7) dX6_play_68 ml_X6_48 yv_X2_settle rfl rfl rfl rfl ⟨Nat.le_of_ble_eq_true rfl, Nat.le_of_ble_eq_true rfl⟩ ⟨rfl, rfl⟩ (Nat.le_of_ble_eq_true rfl) ⟨Nat.le_of_ble_eq_true rfl, Nat.le_of_ble_eq_true rfl⟩ ?_
    exact g_iret X hr dX6_play_71 hf
  · refine g_bipush X dX6_play_32 (v := (-12)) (by decide) ?_
    exact g_iret X hr dX6_play_34 hf
def f_X6_refers (x1 x2 : Int32) (w : TT) : Option (Int32 × TT) := (f_X1_tellReferred x1 x2 (mix w 0)).bind fun o1 => some (o1.1, (put w 0 o1.2))
set_option maxRecDepth 100000 in
set_option maxHeartbeats 4000000 in
theorem c_X6_refers {l : Launch} {D : va_G} {cI : ClassId × ClassId} {A : Nat → Prop} {ad : Nat → Nat} {x1 x2 : Int32} {w : TT} {o : Int32 × TT} (hf : f_X6_refers x1 x2 w = some o) : CTi l D cI A yX6_refers cX6_refers 3 (some .int) rm_X6_refers [.ref (ad 2), .int x1, .int x2] ((wT ad cI) w) o.1 ((wT ad cI) o.2)   := by
  refine CTi.of (by decide +kernel) rfl (Nat.le_of_ble_eq_true rfl) ?_
  intro p e s m args below meth c X hr
  have X : gX p s m args meth c cX6_refers 3 RX6 D cI := X
  show G _ _ _ _ _ _ _ _ _ _ _ _ _ _ _ _ _ 0 [some (.ref (ad 2)), some (.int x1), some (.int x2)] [] w
  unfold f_X6_refers at hf
  refine g_aload_n X (i := 0) dX6_refers_0 rfl rfl ?_
  refine g_get X (q0 := 2) (v := .ref (ad 5)) 0 dX6_refers_1 gC_X6 rfl rfl (by decide) fl_X6_10 rfl rfl ?_
  refine g_get X (q0 := 5) (v := .ref (ad 6)) 0 dX6_refers_4 gC_X5 rfl rfl (by decide) fl_X6_87 rfl rfl ?_
  refine g_iload_n X (i := 1) dX6_refers_7 rfl rfl ?_
  refine g_iload_n X (i := 2) dX6_refers_8 rfl rfl ?_
  obtain ⟨o1, h2, hf⟩ := hfb hf
  refine g_Vi X (q0 := 6) (As := [.int x1, .int x2]) (rest := []) (liftT_i (i := 0) (by decide) (c_X1_tellReferred (ad := rho (5 + 11 * 0) ad) h2)) dX6_refers_9 ml_X6_91 yv_X1_tellReferred rfl rfl rfl rfl ⟨Nat.le_of_ble_eq_true rfl, Nat.le_of_ble_eq_true rfl⟩ ⟨rfl, rfl⟩ (Nat.le_of_ble_eq_true rfl) ⟨Nat.le_of_ble_eq_true rfl, Nat.le_of_ble_eq_true rfl⟩ ?_
  exact g_iret X hr dX6_refers_12 hf
def f_X6_restore (w : TT) : Option (Int32 × TT) := (if (w.2.2 0) = 0 then some ((-12), w) else (f_X2_note w).bind fun o2 => (f_X1_size (mix (cpT o2.2 0 2) 0)).bind fun o4 => (f_X2_settle o4.1 (put (cpT o2.2 0 2) 0 o4.2)).bind fun o6 => some (o6.1, o6.2))
set_option maxRecDepth 100000 in
set_option maxHeartbeats 4000000 in
theorem c_X6_restore {l : Launch} {D : va_G} {cI : ClassId × ClassId} {A : Nat → Prop} {ad : Nat → Nat} {w : TT} {o : Int32 × TT} (hf : f_X6_restore w = some o) : CTi l D cI A yX6_restore cX6_restore 1 (some .int) rm_X6_restore [.ref (ad 2)] ((wT ad cI) w) o.1 ((wT ad cI) o.2)   := by
  refine CTi.of (by decide +kernel) rfl (Nat.le_of_ble_eq_true rfl) ?_
  intro p e s m args below meth c X hr
  have X : gX p s m args meth c cX6_restore 1 RX6 D cI := X
  show G _ _ _ _ _ _ _ _ _ _ _ _ _ _ _ _ _ 0 [some (.ref (ad 2))] [] w
  unfold f_X6_restore at hf
  refine g_aload_n X (i := 0) dX6_restore_0 rfl rfl ?_
  refine g_get X (q0 := 2) (v := .int (w.2.2 0)) 5 dX6_restore_1 gC_X6 rfl rfl (by decide) fl_X6_36 rfl rfl ?_
  refine g_if_ne X dX6_restore_4 (tgt := 10) (by decide) hf (fun c1 hf => ?_) (fun c1 hf => ?_)
  · refine g_bipush X dX6_restore_7 (v := (-12)) (by decide) ?_
    exact g_iret X hr dX6_restore_9 hf
  · refine g_aload_n X (i := 0) dX6_restore_10 rfl rfl ?_
    refine g_get X (q0 := 2) (v := .ref (ad 3)) 3 dX6_restore_11 gC_X6 rfl rfl (by decide) fl_X6_25 rfl rfl ?_
    refine g_aload_n X (i := 0) dX6_restore_14 rfl rfl ?_
    refine g_get X (q0 := 2) (v := .ref (ad 5)) 0 dX6_restore_15 gC_X6 rfl rfl (by decide) fl_X6_10 rfl rfl ?_
    obtain ⟨o2, h3, hf⟩ := hfb hf
    refine g_Vv X (q0 := 3) (As := [.ref (ad 5)]) (rest := []) (c_X2_note h3) dX6_restore_18 ml_X6_40 yv_X2_note rfl rfl rfl rfl ⟨Nat.le_of_ble_eq_true rfl, Nat.le_of_ble_eq_true rfl⟩ ⟨rfl, rfl⟩ (Nat.le_of_ble_eq_true rfl) ⟨Nat.le_of_ble_eq_true rfl, Nat.le_of_ble_eq_true rfl⟩ ?_
    refine g_aload_n X (i := 0) dX6_restore_21 rfl rfl ?_
    refine g_get X (q0 := 2) (v := .ref (ad 5)) 0 dX6_restore_22 gC_X6 rfl rfl (by decide) fl_X6_10 rfl rfl ?_
    refine g_aload_n X (i := 0) dX6_restore_25 rfl rfl ?_
    refine g_get X (q0 := 2) (v := .ref (ad 27)) 2 dX6_restore_26 gC_X6 rfl rfl (by decide) fl_X6_19 rfl rfl ?_
    refine g_Vv X (q0 := 5) (As := [.ref (ad 27)]) (rest := []) (c_cpT (i := 0) (j := 2) (by decide) (by decide) (by decide)) dX6_restore_29 ml_X6_143 yv_X5_copyFrom rfl rfl rfl rfl ⟨Nat.le_of_ble_eq_true rfl, Nat.le_of_ble_eq_true rfl⟩ ⟨rfl, rfl⟩ (Nat.le_of_ble_eq_true rfl) ⟨Nat.le_of_ble_eq_true rfl, Nat.le_of_ble_eq_true rfl⟩ ?_
    refine g_aload_n X (i := 0) dX6_restore_32 rfl rfl ?_
    refine g_get X (q0 := 2) (v := .ref (ad 3)) 3 dX6_restore_33 gC_X6 rfl rfl (by decide) fl_X6_25 rfl rfl ?_
    refine g_aload_n X (i := 0) dX6_restore_36 rfl rfl ?_
    refine g_get X (q0 := 2) (v := .ref (ad 5)) 0 dX6_restore_37 gC_X6 rfl rfl (by decide) fl_X6_10 rfl rfl ?_
    refine g_get X (q0 := 5) (v := .ref (ad 6)) 0 dX6_restore_40 gC_X5 rfl rfl (by decide) fl_X6_87 rfl rfl ?_
    obtain ⟨o4, h5, hf⟩ := hfb hf
    refine g_Vi X (q0 := 6) (As := []) (rest := [.ref (ad 3)]) (liftT_i (i := 0) (by decide) (c_X1_size (ad := rho (5 + 11 * 0) ad) h5)) dX6_restore_43 ml_X6_157 yv_X1_size rfl rfl rfl rfl ⟨Nat.le_of_ble_eq_true rfl, Nat.le_of_ble_eq_true rfl⟩ ⟨rfl, rfl⟩ (Nat.le_of_ble_eq_true rfl) ⟨Nat.le_of_ble_eq_true rfl, Nat.le_of_ble_eq_true rfl⟩ ?_
    obtain ⟨o6, h7, hf⟩ := hfb hf
    refine g_Vi X (q0 := 3) (As := [.int o4.1]) (rest := []) (c_X2_settle h7) dX6_restore_46 ml_X6_48 yv_X2_settle rfl rfl rfl rfl ⟨Nat.le_of_ble_eq_true rfl, Nat.le_of_ble_eq_true rfl⟩ ⟨rfl, rfl⟩ (Nat.le_of_ble_eq_true rfl) ⟨Nat.le_of_ble_eq_true rfl, Nat.le_of_ble_eq_true rfl⟩ ?_
    exact g_iret X hr dX6_restore_49 hf
def f_X6_root (x1 x2 : Int32) (w : TT) : Option (Int32 × TT) := (f_X2_note w).bind fun o1 => (f_X5_writeRoot x1 x2 (mix o1.2 0)).bind fun o3 => (f_X2_settle o3.1 (put o1.2 0 o3.2)).bind fun o5 => some (o5.1, o5.2)
set_option maxRecDepth 100000 in
set_option maxHeartbeats 4000000 in
theorem c_X6_root {l : Launch} {D : va_G} {cI : ClassId × ClassId} {A : Nat → Prop} {ad : Nat → Nat} {x1 x2 : Int32} {w : TT} {o : Int32 × TT} (hf : f_X6_root x1 x2 w = some o) : CTi l D cI A yX6_root cX6_root 3 (some .int) rm_X6_root [.ref (ad 2), .int x1, .int x2] ((wT ad cI) w) o.1 ((wT ad cI) o.2)   := by
  refine CTi.of (by decide +kernel) rfl (Nat.le_of_ble_eq_true rfl) ?_
  intro p e s m args below meth c X hr
  have X : gX p s m args meth c cX6_root 3 RX6 D cI := X
  show G _ _ _ _ _ _ _ _ _ _ _ _ _ _ _ _ _ 0 [some (.ref (ad 2)), some (.int x1), some (.int x2)] [] w
  unfold f_X6_root at hf
  refine g_aload_n X (i := 0) dX6_root_0 rfl rfl ?_
  refine g_get X (q0 := 2) (v := .ref (ad 3)) 3 dX6_root_1 gC_X6 rfl rfl (by decide) fl_X6_25 rfl rfl ?_
  refine g_aload_n X (i := 0) dX6_root_4 rfl rfl ?_
  refine g_get X (q0 := 2) (v := .ref (ad 5)) 0 dX6_root_5 gC_X6 rfl rfl (by decide) fl_X6_10 rfl rfl ?_
  obtain ⟨o1, h2, hf⟩ := hfb hf
  refine g_Vv X (q0 := 3) (As := [.ref (ad 5)]) (rest := []) (c_X2_note h2) dX6_root_8 ml_X6_40 yv_X2_note rfl rfl rfl rfl ⟨Nat.le_of_ble_eq_true rfl, Nat.le_of_ble_eq_true rfl⟩ ⟨rfl, rfl⟩ (Nat.le_of_ble_eq_true rfl) ⟨Nat.le_of_ble_eq_true rfl, Nat.le_of_ble_eq_true rfl⟩ ?_
  refine g_aload_n X (i := 0) dX6_root_11 rfl rfl ?_
  refine g_get X (q0 := 2) (v := .ref (ad 3)) 3 dX6_root_12 gC_X6 rfl rfl (by decide) fl_X6_25 rfl rfl ?_
  refine g_aload_n X (i := 0) dX6_root_15 rfl rfl ?_
  refine g_get X (q0 := 2) (v := .ref (ad 5)) 0 dX6_root_16 gC_X6 rfl rfl (by decide) fl_X6_10 rfl rfl ?_
  refine g_iload_n X (i := 1) dX6_root_19 rfl rfl ?_
  refine g_iload_n X (i := 2) dX6_root_20 rfl rfl ?_
  obtain ⟨o3, h4, hf⟩ := hfb hf
  refine g_Vi X (q0 := 5) (As := [.int x1, .int x2]) (rest := [.ref (ad 3)]) (liftT_i (i := 0) (by decide) (c_X5_writeRoot (ad := rho (5 + 11 * 0) ad) h4)) dX6_root_21 ml_X6_55 yv_X5_writeRoot rfl rfl rfl rfl ⟨Nat.le_of_ble_eq_true rfl, Nat.le_of_ble_eq_true rfl⟩ ⟨rfl, rfl⟩ (Nat.le_of_ble_eq_true rfl) ⟨Nat.le_of_ble_eq_true rfl, Nat.le_of_ble_eq_true rfl⟩ ?_
  obtain ⟨o5, h6, hf⟩ := hfb hf
  refine g_Vi X (q0 := 3) (As := [.int o3.1]) (rest := []) (c_X2_settle h6) dX6_root_24 ml_X6_48 yv_X2_settle rfl rfl rfl rfl ⟨Nat.le_of_ble_eq_true rfl, Nat.le_of_ble_eq_true rfl⟩ ⟨rfl, rfl⟩ (Nat.le_of_ble_eq_true rfl) ⟨Nat.le_of_ble_eq_true rfl, Nat.le_of_ble_eq_true rfl⟩ ?_
  exact g_iret X hr dX6_root_27 hf
def f_X6_set (x1 : Int32) (w : TT) : Option (Int32 × TT) := (f_X2_note w).bind fun o1 => (f_X5_setCare x1 (mix o1.2 0)).bind fun o3 => (f_X2_settle o3.1 (put o1.2 0 o3.2)).bind fun o5 => some (o5.1, o5.2)
set_option maxRecDepth 100000 in
set_option maxHeartbeats 4000000 in
theorem c_X6_set {l : Launch} {D : va_G} {cI : ClassId × ClassId} {A : Nat → Prop} {ad : Nat → Nat} {x1 : Int32} {w : TT} {o : Int32 × TT} (hf : f_X6_set x1 w = some o) : CTi l D cI A yX6_set cX6_set 2 (some .int) rm_X6_set [.ref (ad 2), .int x1] ((wT ad cI) w) o.1 ((wT ad cI) o.2)   := by
  refine CTi.of (by decide +kernel) rfl (Nat.le_of_ble_eq_true rfl) ?_
  intro p e s m args below meth c X hr
  have X : gX p s m args meth c cX6_set 2 RX6 D cI := X
  show G _ _ _ _ _ _ _ _ _ _ _ _ _ _ _ _ _ 0 [some (.ref (ad 2)), some (.int x1)] [] w
  unfold f_X6_set at hf
  refine g_aload_n X (i := 0) dX6_set_0 rfl rfl ?_
  refine g_get X (q0 := 2) (v := .ref (ad 3)) 3 dX6_set_1 gC_X6 rfl rfl (by decide) fl_X6_25 rfl rfl ?_
  refine g_aload_n X (i := 0) dX6_set_4 rfl rfl ?_
  refine g_get X (q0 := 2) (v := .ref (ad 5)) 0 dX6_set_5 gC_X6 rfl rfl (by decide) fl_X6_10 rfl rfl ?_
  obtain ⟨o1, h2, hf⟩ := hfb hf
  refine g_Vv X (q0 := 3) (As := [.ref (ad 5)]) (rest := []) (c_X2_note h2) dX6_set_8 ml_X6_40 yv_X2_note rfl rfl rfl rfl ⟨Nat.le_of_ble_eq_true rfl, Nat.le_of_ble_eq_true rfl⟩ ⟨rfl, rfl⟩ (Nat.le_of_ble_eq_true rfl) ⟨Nat.le_of_ble_eq_true rfl, Nat.le_of_ble_eq_true rfl⟩ ?_
  refine g_aload_n X (i := 0) dX6_set_11 rfl rfl ?_
  refine g_get X (q0 := 2) (v := .ref (ad 3)) 3 dX6_set_12 gC_X6 rfl rfl (by decide) fl_X6_25 rfl rfl ?_
  refine g_aload_n X (i := 0) dX6_set_15 rfl rfl ?_
  refine g_get X (q0 := 2) (v := .ref (ad 5)) 0 dX6_set_16 gC_X6 rfl rfl (by decide) fl_X6_10 rfl rfl ?_
  refine g_iload_n X (i := 1) dX6_set_19 rfl rfl ?_
  obtain ⟨o3, h4, hf⟩ := hfb hf
  refine g_Vi X (q0 := 5) (As := [.int x1]) (rest := [.ref (ad 3)]) (liftT_i (i := 0) (by decide) (c_X5_setCare (ad := rho (5 + 11 * 0) ad) h4)) dX6_set_20 ml_X6_81 yv_X5_setCare rfl rfl rfl rfl ⟨Nat.le_of_ble_eq_true rfl, Nat.le_of_ble_eq_true rfl⟩ ⟨rfl, rfl⟩ (Nat.le_of_ble_eq_true rfl) ⟨Nat.le_of_ble_eq_true rfl, Nat.le_of_ble_eq_true rfl⟩ ?_
  obtain ⟨o5, h6, hf⟩ := hfb hf
  refine g_Vi X (q0 := 3) (As := [.int o3.1]) (rest := []) (c_X2_settle h6) dX6_set_23 ml_X6_48 yv_X2_settle rfl rfl rfl rfl ⟨Nat.le_of_ble_eq_true rfl, Nat.le_of_ble_eq_true rfl⟩ ⟨rfl, rfl⟩ (Nat.le_of_ble_eq_true rfl) ⟨Nat.le_of_ble_eq_true rfl, Nat.le_of_ble_eq_true rfl⟩ ?_
  exact g_iret X hr dX6_set_26 hf
def f_X6_step (x1 : Int32) (w : TT) : Option (Int32 × TT) := (f_X2_note w).bind fun o1 => (f_X5_doSteps x1 (mix o1.2 0)).bind fun o3 => (f_X2_settle o3.1 (put o1.2 0 o3.2)).bind fun o5 => some (o5.1, o5.2)
set_option maxRecDepth 100000 in
set_option maxHeartbeats 4000000 in
theorem c_X6_step {l : Launch} {D : va_G} {cI : ClassId × ClassId} {A : Nat → Prop} {ad : Nat → Nat} {x1 : Int32} {w : TT} {o : Int32 × TT} (hf : f_X6_step x1 w = some o) : CTi l D cI A yX6_step cX6_step 2 (some .int) rm_X6_step [.ref (ad 2), .int x1] ((wT ad cI) w) o.1 ((wT ad cI) o.2)   := by
  refine CTi.of (by decide +kernel) rfl (Nat.le_of_ble_eq_true rfl) ?_
  intro p e s m args below meth c X hr
  have X : gX p s m args meth c cX6_step 2 RX6 D cI := X
  show G _ _ _ _ _ _ _ _ _ _ _ _ _ _ _ _ _ 0 [some (.ref (ad 2)), some (.int x1)] [] w
  unfold f_X6_step at hf
  refine g_aload_n X (i := 0) dX6_step_0 rfl rfl ?_
  refine g_get X (q0 := 2) (v := .ref (ad 3)) 3 dX6_step_1 gC_X6 rfl rfl (by decide) fl_X6_25 rfl rfl ?_
  refine g_aload_n X (i := 0) dX6_step_4 rfl rfl ?_
  refine g_get X (q0 := 2) (v := .ref (ad 5)) 0 dX6_step_5 gC_X6 rfl rfl (by decide) fl_X6_10 rfl rfl ?_
  obtain ⟨o1, h2, hf⟩ := hfb hf
  refine g_Vv X (q0 := 3) (As := [.ref (ad 5)]) (rest := []) (c_X2_note h2) dX6_step_8 ml_X6_40 yv_X2_note rfl rfl rfl rfl ⟨Nat.le_of_ble_eq_true rfl, Nat.le_of_ble_eq_true rfl⟩ ⟨rfl, rfl⟩ (Nat.le_of_ble_eq_true rfl) ⟨Nat.le_of_ble_eq_true rfl, Nat.le_of_ble_eq_true rfl⟩ ?_
  refine g_aload_n X (i := 0) dX6_step_11 rfl rfl ?_
  refine g_get X (q0 := 2) (v := .ref (ad 3)) 3 dX6_step_12 gC_X6 rfl rfl (by decide) fl_X6_25 rfl rfl ?_
  refine g_aload_n X (i := 0) dX6_step_15 rfl rfl ?_
  refine g_get X (q0 := 2) (v := .ref (ad 5)) 0 dX6_step_16 gC_X6 rfl rfl (by decide) fl_X6_10 rfl rfl ?_
  refine g_iload_n X (i := 1) dX6_step_19 rfl rfl ?_
  obtain ⟨o3, h4, hf⟩ := hfb hf
  refine g_Vi X (q0 := 5) (As := [.int x1]) (rest := [.ref (ad 3)]) (liftT_i (i := 0) (by decide) (c_X5_doSteps (ad := rho (5 + 11 * 0) ad) h4)) dX6_step_20 ml_X6_75 yv_X5_doSteps rfl rfl rfl rfl ⟨Nat.le_of_ble_eq_true rfl, Nat.le_of_ble_eq_true rfl⟩ ⟨rfl, rfl⟩ (Nat.le_of_ble_eq_true rfl) ⟨Nat.le_of_ble_eq_true rfl, Nat.le_of_ble_eq_true rfl⟩ ?_
  obtain ⟨o5, h6, hf⟩ := hfb hf
  refine g_Vi X (q0 := 3) (As := [.int o3.1]) (rest := []) (c_X2_settle h6) dX6_step_23 ml_X6_48 yv_X2_settle rfl rfl rfl rfl ⟨Nat.le_of_ble_eq_true rfl, Nat.le_of_ble_eq_true rfl⟩ ⟨rfl, rfl⟩ (Nat.le_of_ble_eq_true rfl) ⟨Nat.le_of_ble_eq_true rfl, Nat.le_of_ble_eq_true rfl⟩ ?_
  exact g_iret X hr dX6_step_26 hf
def f_X6_type (x1 : Int32) (w : TT) : Option (Int32 × TT) := (f_X0_append x1 (mix w 0)).bind fun o1 => some (o1.1, (put w 0 o1.2))
set_option maxRecDepth 100000 in
set_option maxHeartbeats 4000000 in
theorem c_X6_type {l : Launch} {D : va_G} {cI : ClassId × ClassId} {A : Nat → Prop} {ad : Nat → Nat} {x1 : Int32} {w : TT} {o : Int32 × TT} (hf : f_X6_type x1 w = some o) : CTi l D cI A yX6_type cX6_type 2 (some .int) rm_X6_type [.ref (ad 2), .int x1] ((wT ad cI) w) o.1 ((wT ad cI) o.2)   := by
  refine CTi.of (by decide +kernel) rfl (Nat.le_of_ble_eq_true rfl) ?_
  intro p e s m args below meth c X hr
  have X : gX p s m args meth c cX6_type 2 RX6 D cI := X
  show G _ _ _ _ _ _ _ _ _ _ _ _ _ _ _ _ _ 0 [some (.ref (ad 2)), some (.int x1)] [] w
  unfold f_X6_type at hf
  refine g_aload_n X (i := 0) dX6_type_0 rfl rfl ?_
  refine g_get X (q0 := 2) (v := .ref (ad 0)) 4 dX6_type_1 gC_X6 rfl rfl (by decide) fl_X6_32 rfl rfl ?_
  refine g_iload_n X (i := 1) dX6_type_4 rfl rfl ?_
  obtain ⟨o1, h2, hf⟩ := hfb hf
  refine g_Vi X (q0 := 0) (As := [.int x1]) (rest := []) (liftT_i (i := 0) (by decide) (c_X0_append (ad := rho (5 + 11 * 0) ad) h2)) dX6_type_5 ml_X6_163 yv_X0_append rfl rfl rfl rfl ⟨Nat.le_of_ble_eq_true rfl, Nat.le_of_ble_eq_true rfl⟩ ⟨rfl, rfl⟩ (Nat.le_of_ble_eq_true rfl) ⟨Nat.le_of_ble_eq_true rfl, Nat.le_of_ble_eq_true rfl⟩ ?_
  exact g_iret X hr dX6_type_8 hf
def f_X6_undo (w : TT) : Option (Int32 × TT) := (f_X2_takeBack w).bind fun o1 => some (o1.1, o1.2)
set_option maxRecDepth 100000 in
set_option maxHeartbeats 4000000 in
theorem c_X6_undo {l : Launch} {D : va_G} {cI : ClassId × ClassId} {A : Nat → Prop} {ad : Nat → Nat} {w : TT} {o : Int32 × TT} (hf : f_X6_undo w = some o) : CTi l D cI A yX6_undo cX6_undo 1 (some .int) rm_X6_undo [.ref (ad 2)] ((wT ad cI) w) o.1 ((wT ad cI) o.2)   := by
  refine CTi.of (by decide +kernel) rfl (Nat.le_of_ble_eq_true rfl) ?_
  intro p e s m args below meth c X hr
  have X : gX p s m args meth c cX6_undo 1 RX6 D cI := X
  show G _ _ _ _ _ _ _ _ _ _ _ _ _ _ _ _ _ 0 [some (.ref (ad 2))] [] w
  unfold f_X6_undo at hf
  refine g_aload_n X (i := 0) dX6_undo_0 rfl rfl ?_
  refine g_get X (q0 := 2) (v := .ref (ad 3)) 3 dX6_undo_1 gC_X6 rfl rfl (by decide) fl_X6_25 rfl rfl ?_
  refine g_aload_n X (i := 0) dX6_undo_4 rfl rfl ?_
  refine g_get X (q0 := 2) (v := .ref (ad 5)) 0 dX6_undo_5 gC_X6 rfl rfl (by decide) fl_X6_10 rfl rfl ?_
  obtain ⟨o1, h2, hf⟩ := hfb hf
  refine g_Vi X (q0 := 3) (As := [.ref (ad 5)]) (rest := []) (c_X2_takeBack h2) dX6_undo_8 ml_X6_159 yv_X2_takeBack rfl rfl rfl rfl ⟨Nat.le_of_ble_eq_true rfl, Nat.le_of_ble_eq_true rfl⟩ ⟨rfl, rfl⟩ (Nat.le_of_ble_eq_true rfl) ⟨Nat.le_of_ble_eq_true rfl, Nat.le_of_ble_eq_true rfl⟩ ?_
  exact g_iret X hr dX6_undo_11 hf
def f_X6_want (x1 : Int32) (w : TT) : Option (Int32 × TT) := (f_X2_note w).bind fun o1 => (f_X5_wishFinish x1 (mix o1.2 0)).bind fun o3 => (f_X2_settle o3.1 (put o1.2 0 o3.2)).bind fun o5 => some (o5.1, o5.2)
set_option maxRecDepth 100000 in
set_option maxHeartbeats 4000000 in
theorem c_X6_want {l : Launch} {D : va_G} {cI : ClassId × ClassId} {A : Nat → Prop} {ad : Nat → Nat} {x1 : Int32} {w : TT} {o : Int32 × TT} (hf : f_X6_want x1 w = some o) : CTi l D cI A yX6_want cX6_want 2 (some .int) rm_X6_want [.ref (ad 2), .int x1] ((wT ad cI) w) o.1 ((wT ad cI) o.2)   := by
  refine CTi.of (by decide +kernel) rfl (Nat.le_of_ble_eq_true rfl) ?_
  intro p e s m args below meth c X hr
  have X : gX p s m args meth c cX6_want 2 RX6 D cI := X
  show G _ _ _ _ _ _ _ _ _ _ _ _ _ _ _ _ _ 0 [some (.ref (ad 2)), some (.int x1)] [] w
  unfold f_X6_want at hf
  refine g_aload_n X (i := 0) dX6_want_0 rfl rfl ?_
  refine g_get X (q0 := 2) (v := .ref (ad 3)) 3 dX6_want_1 gC_X6 rfl rfl (by decide) fl_X6_25 rfl rfl ?_
  refine g_aload_n X (i := 0) dX6_want_4 rfl rfl ?_
  refine g_get X (q0 := 2) (v := .ref (ad 5)) 0 dX6_want_5 gC_X6 rfl rfl (by decide) fl_X6_10 rfl rfl ?_
  obtain ⟨o1, h2, hf⟩ := hfb hf
  refine g_Vv X (q0 := 3) (As := [.ref (ad 5)]) (rest := []) (c_X2_note h2) dX6_want_8 ml_X6_40 yv_X2_note rfl rfl rfl rfl ⟨Nat.le_of_ble_eq_true rfl, Nat.le_of_ble_eq_true rfl⟩ ⟨rfl, rfl⟩ (Nat.le_of_ble_eq_true rfl) ⟨Nat.le_of_ble_eq_true rfl, Nat.le_of_ble_eq_true rfl⟩ ?_
  refine g_aload_n X (i := 0) dX6_want_11 rfl rfl ?_
  refine g_get X (q0 := 2) (v := .ref (ad 3)) 3 dX6_want_12 gC_X6 rfl rfl (by decide) fl_X6_25 rfl rfl ?_
  refine g_aload_n X (i := 0) dX6_want_15 rfl rfl ?_
  refine g_get X (q0 := 2) (v := .ref (ad 5)) 0 dX6_want_16 gC_X6 rfl rfl (by decide) fl_X6_10 rfl rfl ?_
  refine g_iload_n X (i := 1) dX6_want_19 rfl rfl ?_
  obtain ⟨o3, h4, hf⟩ := hfb hf
  refine g_Vi X (q0 := 5) (As := [.int x1]) (rest := [.ref (ad 3)]) (liftT_i (i := 0) (by decide) (c_X5_wishFinish (ad := rho (5 + 11 * 0) ad) h4)) dX6_want_20 ml_X6_65 yv_X5_wishFinish rfl rfl rfl rfl ⟨Nat.le_of_ble_eq_true rfl, Nat.le_of_ble_eq_true rfl⟩ ⟨rfl, rfl⟩ (Nat.le_of_ble_eq_true rfl) ⟨Nat.le_of_ble_eq_true rfl, Nat.le_of_ble_eq_true rfl⟩ ?_
  obtain ⟨o5, h6, hf⟩ := hfb hf
  refine g_Vi X (q0 := 3) (As := [.int o3.1]) (rest := []) (c_X2_settle h6) dX6_want_23 ml_X6_48 yv_X2_settle rfl rfl rfl rfl ⟨Nat.le_of_ble_eq_true rfl, Nat.le_of_ble_eq_true rfl⟩ ⟨rfl, rfl⟩ (Nat.le_of_ble_eq_true rfl) ⟨Nat.le_of_ble_eq_true rfl, Nat.le_of_ble_eq_true rfl⟩ ?_
  exact g_iret X hr dX6_want_26 hf
def f_X6_weak (x1 x2 : Int32) (w : TT) : Option (Int32 × TT) := (f_X2_note w).bind fun o1 => (f_X5_writeHolder x1 x2 (mix o1.2 0)).bind fun o3 => (f_X2_settle o3.1 (put o1.2 0 o3.2)).bind fun o5 => some (o5.1, o5.2)
set_option maxRecDepth 100000 in
set_option maxHeartbeats 4000000 in
theorem c_X6_weak {l : Launch} {D : va_G} {cI : ClassId × ClassId} {A : Nat → Prop} {ad : Nat → Nat} {x1 x2 : Int32} {w : TT} {o : Int32 × TT} (hf : f_X6_weak x1 x2 w = some o) : CTi l D cI A yX6_weak cX6_weak 3 (some .int) rm_X6_weak [.ref (ad 2), .int x1, .int x2] ((wT ad cI) w) o.1 ((wT ad cI) o.2)   := by
  refine CTi.of (by decide +kernel) rfl (Nat.le_of_ble_eq_true rfl) ?_
  intro p e s m args below meth c X hr
  have X : gX p s m args meth c cX6_weak 3 RX6 D cI := X
  show G _ _ _ _ _ _ _ _ _ _ _ _ _ _ _ _ _ 0 [some (.ref (ad 2)), some (.int x1), some (.int x2)] [] w
  unfold f_X6_weak at hf
  refine g_aload_n X (i := 0) dX6_weak_0 rfl rfl ?_
  refine g_get X (q0 := 2) (v := .ref (ad 3)) 3 dX6_weak_1 gC_X6 rfl rfl (by decide) fl_X6_25 rfl rfl ?_
  refine g_aload_n X (i := 0) dX6_weak_4 rfl rfl ?_
  refine g_get X (q0 := 2) (v := .ref (ad 5)) 0 dX6_weak_5 gC_X6 rfl rfl (by decide) fl_X6_10 rfl rfl ?_
  obtain ⟨o1, h2, hf⟩ := hfb hf
  refine g_Vv X (q0 := 3) (As := [.ref (ad 5)]) (rest := []) (c_X2_note h2) dX6_weak_8 ml_X6_40 yv_X2_note rfl rfl rfl rfl ⟨Nat.le_of_ble_eq_true rfl, Nat.le_of_ble_eq_true rfl⟩ ⟨rfl, rfl⟩ (Nat.le_of_ble_eq_true rfl) ⟨Nat.le_of_ble_eq_true rfl, Nat.le_of_ble_eq_true rfl⟩ ?_
  refine g_aload_n X (i := 0) dX6_weak_11 rfl rfl ?_
  refine g_get X (q0 := 2) (v := .ref (ad 3)) 3 dX6_weak_12 gC_X6 rfl rfl (by decide) fl_X6_25 rfl rfl ?_
  refine g_aload_n X (i := 0) dX6_weak_15 rfl rfl ?_
  refine g_get X (q0 := 2) (v := .ref (ad 5)) 0 dX6_weak_16 gC_X6 rfl rfl (by decide) fl_X6_10 rfl rfl ?_
  refine g_iload_n X (i := 1) dX6_weak_19 rfl rfl ?_
  refine g_iload_n X (i := 2) dX6_weak_20 rfl rfl ?_
  obtain ⟨o3, h4, hf⟩ := hfb hf
  refine g_Vi X (q0 := 5) (As := [.int x1, .int x2]) (rest := [.ref (ad 3)]) (liftT_i (i := 0) (by decide) (c_X5_writeHolder (ad := rho (5 + 11 * 0) ad) h4)) dX6_weak_21 ml_X6_59 yv_X5_writeHolder rfl rfl rfl rfl ⟨Nat.le_of_ble_eq_true rfl, Nat.le_of_ble_eq_true rfl⟩ ⟨rfl, rfl⟩ (Nat.le_of_ble_eq_true rfl) ⟨Nat.le_of_ble_eq_true rfl, Nat.le_of_ble_eq_true rfl⟩ ?_
  obtain ⟨o5, h6, hf⟩ := hfb hf
  refine g_Vi X (q0 := 3) (As := [.int o3.1]) (rest := []) (c_X2_settle h6) dX6_weak_24 ml_X6_48 yv_X2_settle rfl rfl rfl rfl ⟨Nat.le_of_ble_eq_true rfl, Nat.le_of_ble_eq_true rfl⟩ ⟨rfl, rfl⟩ (Nat.le_of_ble_eq_true rfl) ⟨Nat.le_of_ble_eq_true rfl, Nat.le_of_ble_eq_true rfl⟩ ?_
  exact g_iret X hr dX6_weak_27 hf
def f_X6_wouldGo (w : TT) : Option (Int32 × TT) := (f_X5_doAllSteps (mix (cpT w 1 0) 1)).bind fun o1 => some ((((put (cpT w 1 0) 1 o1.2).1 0).1 13) &&& ((((put (cpT w 1 0) 1 o1.2).1 1).1 13) ^^^ (-1)), (put (cpT w 1 0) 1 o1.2))
set_option maxRecDepth 100000 in
set_option maxHeartbeats 4000000 in
theorem c_X6_wouldGo {l : Launch} {D : va_G} {cI : ClassId × ClassId} {A : Nat → Prop} {ad : Nat → Nat} {w : TT} {o : Int32 × TT} (hf : f_X6_wouldGo w = some o) : CTi l D cI A yX6_wouldGo cX6_wouldGo 1 (some .int) rm_X6_wouldGo [.ref (ad 2)] ((wT ad cI) w) o.1 ((wT ad cI) o.2)   := by
  refine CTi.of (by decide +kernel) rfl (Nat.le_of_ble_eq_true rfl) ?_
  intro p e s m args below meth c X hr
  have X : gX p s m args meth c cX6_wouldGo 1 RX6 D cI := X
  show G _ _ _ _ _ _ _ _ _ _ _ _ _ _ _ _ _ 0 [some (.ref (ad 2))] [] w
  unfold f_X6_wouldGo at hf
  refine g_aload_n X (i := 0) dX6_wouldGo_0 rfl rfl ?_
  refine g_get X (q0 := 2) (v := .ref (ad 16)) 1 dX6_wouldGo_1 gC_X6 rfl rfl (by decide) fl_X6_16 rfl rfl ?_
  refine g_aload_n X (i := 0) dX6_wouldGo_4 rfl rfl ?_
  refine g_get X (q0 := 2) (v := .ref (ad 5)) 0 dX6_wouldGo_5 gC_X6 rfl rfl (by decide) fl_X6_10 rfl rfl ?_
  refine g_Vv X (q0 := 16) (As := [.ref (ad 5)]) (rest := []) (c_cpT (i := 1) (j := 0) (by decide) (by decide) (by decide)) dX6_wouldGo_8 ml_X6_143 yv_X5_copyFrom rfl rfl rfl rfl ⟨Nat.le_of_ble_eq_true rfl, Nat.le_of_ble_eq_true rfl⟩ ⟨rfl, rfl⟩ (Nat.le_of_ble_eq_true rfl) ⟨Nat.le_of_ble_eq_true rfl, Nat.le_of_ble_eq_true rfl⟩ ?_
  refine g_aload_n X (i := 0) dX6_wouldGo_11 rfl rfl ?_
  refine g_get X (q0 := 2) (v := .ref (ad 16)) 1 dX6_wouldGo_12 gC_X6 rfl rfl (by decide) fl_X6_16 rfl rfl ?_
  obtain ⟨o1, h2, hf⟩ := hfb hf
  refine g_Vi X (q0 := 16) (As := []) (rest := []) (liftT_i (i := 1) (by decide) (c_X5_doAllSteps (ad := rho (5 + 11 * 1) ad) h2)) dX6_wouldGo_15 ml_X6_78 yv_X5_doAllSteps rfl rfl rfl rfl ⟨Nat.le_of_ble_eq_true rfl, Nat.le_of_ble_eq_true rfl⟩ ⟨rfl, rfl⟩ (Nat.le_of_ble_eq_true rfl) ⟨Nat.le_of_ble_eq_true rfl, Nat.le_of_ble_eq_true rfl⟩ ?_
  refine g_pop X dX6_wouldGo_18 rfl ?_
  refine g_aload_n X (i := 0) dX6_wouldGo_19 rfl rfl ?_
  refine g_get X (q0 := 2) (v := .ref (ad 5)) 0 dX6_wouldGo_20 gC_X6 rfl rfl (by decide) fl_X6_10 rfl rfl ?_
  refine g_get X (q0 := 5) (v := .ref (ad 6)) 0 dX6_wouldGo_23 gC_X5 rfl rfl (by decide) fl_X6_87 rfl rfl ?_
  refine g_get X (q0 := 6) (v := .int (((put (cpT w 1 0) 1 o1.2).1 0).1 13)) 0 dX6_wouldGo_26 gC_X1 rfl rfl (by decide) fl_X6_146 rfl rfl ?_
  refine g_aload_n X (i := 0) dX6_wouldGo_29 rfl rfl ?_
  refine g_get X (q0 := 2) (v := .ref (ad 16)) 1 dX6_wouldGo_30 gC_X6 rfl rfl (by decide) fl_X6_16 rfl rfl ?_
  refine g_get X (q0 := 16) (v := .ref (ad 17)) 0 dX6_wouldGo_33 gC_X5 rfl rfl (by decide) fl_X6_87 rfl rfl ?_
  refine g_get X (q0 := 17) (v := .int (((put (cpT w 1 0) 1 o1.2).1 1).1 13)) 0 dX6_wouldGo_36 gC_X1 rfl rfl (by decide) fl_X6_146 rfl rfl ?_
  refine g_iconst X dX6_wouldGo_39 (v := (-1)) (by decide) ?_
  refine g_ixor X dX6_wouldGo_40 ?_
  refine g_iand X dX6_wouldGo_41 ?_
  exact g_iret X hr dX6_wouldGo_42 hf
