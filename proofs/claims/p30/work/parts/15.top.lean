def f_X2_settle (x1 : Int32) (w : TT) : Option (Int32 × TT) := (f_X6_isError x1 w).bind fun o1 => (if o1.1 = 0 then (if (o1.2.2.2 2) < 4 then some (x1, tR o1.2 2 ((o1.2.2.2 2) + 1)) else (f_J9_floorMod_7cf53 ((o1.2.2.2 1) + 1) 5 o1.2).bind fun o5 => some (x1, tR o5.2 1 o5.1)) else some (x1, o1.2))
set_option maxRecDepth 100000 in
set_option maxHeartbeats 4000000 in
theorem c_X2_settle {l : Launch} {D : va_G} {cI : ClassId × ClassId} {A : Nat → Prop} {ad : Nat → Nat} {x1 : Int32} {w : TT} {o : Int32 × TT} (hf : f_X2_settle x1 w = some o) : CTi l D cI A yX2_settle cX2_settle 2 (some .int) rm_X2_settle [.ref (ad 3), .int x1] ((wT ad cI) w) o.1 ((wT ad cI) o.2)   := by
  refine CTi.of (by decide +kernel) rfl (Nat.le_of_ble_eq_true rfl) ?_
  intro p e s m args below meth c X hr
  have X : gX p s m args meth c cX2_settle 2 RX2 D cI := X
  show G _ _ _ _ _ _ _ _ _ _ _ _ _ _ _ _ _ 0 [some (.ref (ad 3)), some (.int x1)] [] w
  unfold f_X2_settle at hf
  refine g_iload_n X (i := 1) dX2_settle_0 rfl rfl ?_
  obtain ⟨o1, h2, hf⟩ := hfb hf
  refine g_Ni X (As := [.int x1]) (rest := []) (c_X6_isError (wf := (wT ad cI)) h2) dX2_settle_1 ml_X2_39 yv_X6_isError rfl rfl ⟨Nat.le_of_ble_eq_true rfl, Nat.le_of_ble_eq_true rfl⟩ ⟨rfl, rfl⟩ (Nat.le_of_ble_eq_true rfl) ⟨Nat.le_of_ble_eq_true rfl, Nat.le_of_ble_eq_true rfl⟩ ?_
  refine g_if_eq X dX2_settle_4 (tgt := 9) (by decide) hf (fun c3 hf => ?_) (fun c3 hf => ?_)
  · refine g_aload_n X (i := 0) dX2_settle_9 rfl rfl ?_
    refine g_get X (q0 := 3) (v := .int (o1.2.2.2 2)) 2 dX2_settle_10 gC_X2 rfl rfl (by decide) fl_X2_28 rfl rfl ?_
    refine g_iconst X dX2_settle_13 (v := 4) (by decide) ?_
    refine g_icmp_ge X dX2_settle_14 (tgt := 30) (by decide) hf (fun c4 hf => ?_) (fun c4 hf => ?_)
    · refine g_aload_n X (i := 0) dX2_settle_17 rfl rfl ?_
      refine g_dup X dX2_settle_18 rfl ?_
      refine g_get X (q0 := 3) (v := .int (o1.2.2.2 2)) 2 dX2_settle_19 gC_X2 rfl rfl (by decide) fl_X2_28 rfl rfl ?_
      refine g_iconst X dX2_settle_22 (v := 1) (by decide) ?_
      refine g_iadd X dX2_settle_23 ?_
      refine g_put X (q0 := 3) 2 dX2_settle_24 gC_X2 rfl rfl (by decide) fl_X2_28 rfl rfl rfl rfl (Nat.le_of_ble_eq_true rfl) (pwT_2 ad cI _ _) ?_
      refine g_goto X dX2_settle_27 (tgt := 44) (by decide) ?_
      refine g_iload_n X (i := 1) dX2_settle_44 rfl rfl ?_
      exact g_iret X hr dX2_settle_45 hf
    · refine g_aload_n X (i := 0) dX2_settle_30 rfl rfl ?_
      refine g_aload_n X (i := 0) dX2_settle_31 rfl rfl ?_
      refine g_get X (q0 := 3) (v := .int (o1.2.2.2 1)) 1 dX2_settle_32 gC_X2 rfl rfl (by decide) fl_X2_18 rfl rfl ?_
      refine g_iconst X dX2_settle_35 (v := 1) (by decide) ?_
      refine g_iadd X dX2_settle_36 ?_
      refine g_iconst X dX2_settle_37 (v := 5) (by decide) ?_
      obtain ⟨o5, h6, hf⟩ := hfb hf
      refine g_Si X (As := [.int ((o1.2.2.2 1) + 1), .int 5]) (rest := [.ref (ad 3)]) (c_J9_floorMod_7cf53 (wf := (wT ad cI)) h6) dX2_settle_38 ml_X2_22 yv_J9_floorMod_7cf53 rfl rfl ⟨Nat.le_of_ble_eq_true rfl, Nat.le_of_ble_eq_true rfl⟩ ⟨rfl, rfl⟩ (Nat.le_of_ble_eq_true rfl) ⟨Nat.le_of_ble_eq_true rfl, Nat.le_of_ble_eq_true rfl⟩ ?_
      refine g_put X (q0 := 3) 1 dX2_settle_41 gC_X2 rfl rfl (by decide) fl_X2_18 rfl rfl rfl rfl (Nat.le_of_ble_eq_true rfl) (pwT_1 ad cI _ _) ?_
      refine g_iload_n X (i := 1) dX2_settle_44 rfl rfl ?_
      exact g_iret X hr dX2_settle_45 hf
  · refine g_iload_n X (i := 1) dX2_settle_7 rfl rfl ?_
    exact g_iret X hr dX2_settle_8 hf
def f_X6_all (w : TT) : Option (Int32 × TT) := (f_X2_note w).bind fun o1 => (f_X5_doAllSteps (mix o1.2 0)).bind fun o3 => (f_X2_settle o3.1 (put o1.2 0 o3.2)).bind fun o5 => some (o5.1, o5.2)
set_option maxRecDepth 100000 in
set_option maxHeartbeats 4000000 in
theorem c_X6_all {l : Launch} {D : va_G} {cI : ClassId × ClassId} {A : Nat → Prop} {ad : Nat → Nat} {w : TT} {o : Int32 × TT} (hf : f_X6_all w = some o) : CTi l D cI A yX6_all cX6_all 1 (some .int) rm_X6_all [.ref (ad 2)] ((wT ad cI) w) o.1 ((wT ad cI) o.2)   := by
  refine CTi.of (by decide +kernel) rfl (Nat.le_of_ble_eq_true rfl) ?_
  intro p e s m args below meth c X hr
  have X : gX p s m args meth c cX6_all 1 RX6 D cI := X
  show G _ _ _ _ _ _ _ _ _ _ _ _ _ _ _ _ _ 0 [some (.ref (ad 2))] [] w
  unfold f_X6_all at hf
  refine g_aload_n X (i := 0) dX6_all_0 rfl rfl ?_
  refine g_get X (q0 := 2) (v := .ref (ad 3)) 3 dX6_all_1 gC_X6 rfl rfl (by decide) fl_X6_25 rfl rfl ?_
  refine g_aload_n X (i := 0) dX6_all_4 rfl rfl ?_
  refine g_get X (q0 := 2) (v := .ref (ad 5)) 0 dX6_all_5 gC_X6 rfl rfl (by decide) fl_X6_10 rfl rfl ?_
  obtain ⟨o1, h2, hf⟩ := hfb hf
  refine g_Vv X (q0 := 3) (As := [.ref (ad 5)]) (rest := []) (c_X2_note h2) dX6_all_8 ml_X6_40 yv_X2_note rfl rfl rfl rfl ⟨Nat.le_of_ble_eq_true rfl, Nat.le_of_ble_eq_true rfl⟩ ⟨rfl, rfl⟩ (Nat.le_of_ble_eq_true rfl) ⟨Nat.le_of_ble_eq_true rfl, Nat.le_of_ble_eq_true rfl⟩ ?_
  refine g_aload_n X (i := 0) dX6_all_11 rfl rfl ?_
  refine g_get X (q0 := 2) (v := .ref (ad 3)) 3 dX6_all_12 gC_X6 rfl rfl (by decide) fl_X6_25 rfl rfl ?_
  refine g_aload_n X (i := 0) dX6_all_15 rfl rfl ?_
  refine g_get X (q0 := 2) (v := .ref (ad 5)) 0 dX6_all_16 gC_X6 rfl rfl (by decide) fl_X6_10 rfl rfl ?_
  obtain ⟨o3, h4, hf⟩ := hfb hf
  refine g_Vi X (q0 := 5) (As := []) (rest := [.ref (ad 3)]) (liftT_i (i := 0) (by decide) (c_X5_doAllSteps (ad := rho (5 + 11 * 0) ad) h4)) dX6_all_19 ml_X6_78 yv_X5_doAllSteps rfl rfl rfl rfl ⟨Nat.le_of_ble_eq_true rfl, Nat.le_of_ble_eq_true rfl⟩ ⟨rfl, rfl⟩ (Nat.le_of_ble_eq_true rfl) ⟨Nat.le_of_ble_eq_true rfl, Nat.le_of_ble_eq_true rfl⟩ ?_
  obtain ⟨o5, h6, hf⟩ := hfb hf
  refine g_Vi X (q0 := 3) (As := [.int o3.1]) (rest := []) (c_X2_settle h6) dX6_all_22 ml_X6_48 yv_X2_settle rfl rfl rfl rfl ⟨Nat.le_of_ble_eq_true rfl, Nat.le_of_ble_eq_true rfl⟩ ⟨rfl, rfl⟩ (Nat.le_of_ble_eq_true rfl) ⟨Nat.le_of_ble_eq_true rfl, Nat.le_of_ble_eq_true rfl⟩ ?_
  exact g_iret X hr dX6_all_25 hf
def f_X6_ask (x1 x2 : Int32) (w : TT) : Option (Int32 × TT) := (f_X2_note w).bind fun o1 => (f_X5_askHolder x1 x2 (mix o1.2 0)).bind fun o3 => (f_X2_settle o3.1 (put o1.2 0 o3.2)).bind fun o5 => some (o5.1, o5.2)
set_option maxRecDepth 100000 in
set_option maxHeartbeats 4000000 in
theorem c_X6_ask {l : Launch} {D : va_G} {cI : ClassId × ClassId} {A : Nat → Prop} {ad : Nat → Nat} {x1 x2 : Int32} {w : TT} {o : Int32 × TT} (hf : f_X6_ask x1 x2 w = some o) : CTi l D cI A yX6_ask cX6_ask 3 (some .int) rm_X6_ask [.ref (ad 2), .int x1, .int x2] ((wT ad cI) w) o.1 ((wT ad cI) o.2)   := by
  refine CTi.of (by decide +kernel) rfl (Nat.le_of_ble_eq_true rfl) ?_
  intro p e s m args below meth c X hr
  have X : gX p s m args meth c cX6_ask 3 RX6 D cI := X
  show G _ _ _ _ _ _ _ _ _ _ _ _ _ _ _ _ _ 0 [some (.ref (ad 2)), some (.int x1), some (.int x2)] [] w
  unfold f_X6_ask at hf
  refine g_aload_n X (i := 0) dX6_ask_0 rfl rfl ?_
  refine g_get X (q0 := 2) (v := .ref (ad 3)) 3 dX6_ask_1 gC_X6 rfl rfl (by decide) fl_X6_25 rfl rfl ?_
  refine g_aload_n X (i := 0) dX6_ask_4 rfl rfl ?_
  refine g_get X (q0 := 2) (v := .ref (ad 5)) 0 dX6_ask_5 gC_X6 rfl rfl (by decide) fl_X6_10 rfl rfl ?_
  obtain ⟨o1, h2, hf⟩ := hfb hf
  refine g_Vv X (q0 := 3) (As := [.ref (ad 5)]) (rest := []) (c_X2_note h2) dX6_ask_8 ml_X6_40 yv_X2_note rfl rfl rfl rfl ⟨Nat.le_of_ble_eq_true rfl, Nat.le_of_ble_eq_true rfl⟩ ⟨rfl, rfl⟩ (Nat.le_of_ble_eq_true rfl) ⟨Nat.le_of_ble_eq_true rfl, Nat.le_of_ble_eq_true rfl⟩ ?_
  refine g_aload_n X (i := 0) dX6_ask_11 rfl rfl ?_
  refine g_get X (q0 := 2) (v := .ref (ad 3)) 3 dX6_ask_12 gC_X6 rfl rfl (by decide) fl_X6_25 rfl rfl ?_
  refine g_aload_n X (i := 0) dX6_ask_15 rfl rfl ?_
  refine g_get X (q0 := 2) (v := .ref (ad 5)) 0 dX6_ask_16 gC_X6 rfl rfl (by decide) fl_X6_10 rfl rfl ?_
  refine g_iload_n X (i := 1) dX6_ask_19 rfl rfl ?_
  refine g_iload_n X (i := 2) dX6_ask_20 rfl rfl ?_
  obtain ⟨o3, h4, hf⟩ := hfb hf
  refine g_Vi X (q0 := 5) (As := [.int x1, .int x2]) (rest := [.ref (ad 3)]) (liftT_i (i := 0) (by decide) (c_X5_askHolder (ad := rho (5 + 11 * 0) ad) h4)) dX6_ask_21 ml_X6_62 yv_X5_askHolder rfl rfl rfl rfl ⟨Nat.le_of_ble_eq_true rfl, Nat.le_of_ble_eq_true rfl⟩ ⟨rfl, rfl⟩ (Nat.le_of_ble_eq_true rfl) ⟨Nat.le_of_ble_eq_true rfl, Nat.le_of_ble_eq_true rfl⟩ ?_
  obtain ⟨o5, h6, hf⟩ := hfb hf
  refine g_Vi X (q0 := 3) (As := [.int o3.1]) (rest := []) (c_X2_settle h6) dX6_ask_24 ml_X6_48 yv_X2_settle rfl rfl rfl rfl ⟨Nat.le_of_ble_eq_true rfl, Nat.le_of_ble_eq_true rfl⟩ ⟨rfl, rfl⟩ (Nat.le_of_ble_eq_true rfl) ⟨Nat.le_of_ble_eq_true rfl, Nat.le_of_ble_eq_true rfl⟩ ?_
  exact g_iret X hr dX6_ask_27 hf
def f_X6_begin (w : TT) : Option (Int32 × TT) := (f_X2_note w).bind fun o1 => (f_X5_beginSearch (mix o1.2 0)).bind fun o3 => (f_X2_settle o3.1 (put o1.2 0 o3.2)).bind fun o5 => some (o5.1, o5.2)
set_option maxRecDepth 100000 in
set_option maxHeartbeats 4000000 in
theorem c_X6_begin {l : Launch} {D : va_G} {cI : ClassId × ClassId} {A : Nat → Prop} {ad : Nat → Nat} {w : TT} {o : Int32 × TT} (hf : f_X6_begin w = some o) : CTi l D cI A yX6_begin cX6_begin 1 (some .int) rm_X6_begin [.ref (ad 2)] ((wT ad cI) w) o.1 ((wT ad cI) o.2)   := by
  refine CTi.of (by decide +kernel) rfl (Nat.le_of_ble_eq_true rfl) ?_
  intro p e s m args below meth c X hr
  have X : gX p s m args meth c cX6_begin 1 RX6 D cI := X
  show G _ _ _ _ _ _ _ _ _ _ _ _ _ _ _ _ _ 0 [some (.ref (ad 2))] [] w
  unfold f_X6_begin at hf
  refine g_aload_n X (i := 0) dX6_begin_0 rfl rfl ?_
  refine g_get X (q0 := 2) (v := .ref (ad 3)) 3 dX6_begin_1 gC_X6 rfl rfl (by decide) fl_X6_25 rfl rfl ?_
  refine g_aload_n X (i := 0) dX6_begin_4 rfl rfl ?_
  refine g_get X (q0 := 2) (v := .ref (ad 5)) 0 dX6_begin_5 gC_X6 rfl rfl (by decide) fl_X6_10 rfl rfl ?_
  obtain ⟨o1, h2, hf⟩ := hfb hf
  refine g_Vv X (q0 := 3) (As := [.ref (ad 5)]) (rest := []) (c_X2_note h2) dX6_begin_8 ml_X6_40 yv_X2_note rfl rfl rfl rfl ⟨Nat.le_of_ble_eq_true rfl, Nat.le_of_ble_eq_true rfl⟩ ⟨rfl, rfl⟩ (Nat.le_of_ble_eq_true rfl) ⟨Nat.le_of_ble_eq_true rfl, Nat.le_of_ble_eq_true rfl⟩ ?_
  refine g_aload_n X (i := 0) dX6_begin_11 rfl rfl ?_
  refine g_get X (q0 := 2) (v := .ref (ad 3)) 3 dX6_begin_12 gC_X6 rfl rfl (by decide) fl_X6_25 rfl rfl ?_
  refine g_aload_n X (i := 0) dX6_begin_15 rfl rfl ?_
  refine g_get X (q0 := 2) (v := .ref (ad 5)) 0 dX6_begin_16 gC_X6 rfl rfl (by decide) fl_X6_10 rfl rfl ?_
  obtain ⟨o3, h4, hf⟩ := hfb hf
  refine g_Vi X (q0 := 5) (As := []) (rest := [.ref (ad 3)]) (liftT_i (i := 0) (by decide) (c_X5_beginSearch (ad := rho (5 + 11 * 0) ad) h4)) dX6_begin_19 ml_X6_71 yv_X5_beginSearch rfl rfl rfl rfl ⟨Nat.le_of_ble_eq_true rfl, Nat.le_of_ble_eq_true rfl⟩ ⟨rfl, rfl⟩ (Nat.le_of_ble_eq_true rfl) ⟨Nat.le_of_ble_eq_true rfl, Nat.le_of_ble_eq_true rfl⟩ ?_
  obtain ⟨o5, h6, hf⟩ := hfb hf
  refine g_Vi X (q0 := 3) (As := [.int o3.1]) (rest := []) (c_X2_settle h6) dX6_begin_22 ml_X6_48 yv_X2_settle rfl rfl rfl rfl ⟨Nat.le_of_ble_eq_true rfl, Nat.le_of_ble_eq_true rfl⟩ ⟨rfl, rfl⟩ (Nat.le_of_ble_eq_true rfl) ⟨Nat.le_of_ble_eq_true rfl, Nat.le_of_ble_eq_true rfl⟩ ?_
  exact g_iret X hr dX6_begin_25 hf
def f_X6_count (x1 : Int32) (w : TT) : Option (Int32 × TT) := (if x1 = 10 then some (w.2.2 2, w) else (if x1 = 11 then some (w.2.1.1 0, w) else (if x1 = 12 then (if (w.2.2 0) = 0 then some (0, w) else some (1, w)) else (f_X5_tellNumber x1 (mix w 0)).bind fun o5 => some (o5.1, (put w 0 o5.2)))))
set_option maxRecDepth 100000 in
set_option maxHeartbeats 4000000 in
theorem c_X6_count {l : Launch} {D : va_G} {cI : ClassId × ClassId} {A : Nat → Prop} {ad : Nat → Nat} {x1 : Int32} {w : TT} {o : Int32 × TT} (hf : f_X6_count x1 w = some o) : CTi l D cI A yX6_count cX6_count 2 (some .int) rm_X6_count [.ref (ad 2), .int x1] ((wT ad cI) w) o.1 ((wT ad cI) o.2)   := by
  refine CTi.of (by decide +kernel) rfl (Nat.le_of_ble_eq_true rfl) ?_
  intro p e s m args below meth c X hr
  have X : gX p s m args meth c cX6_count 2 RX6 D cI := X
  show G _ _ _ _ _ _ _ _ _ _ _ _ _ _ _ _ _ 0 [some (.ref (ad 2)), some (.int x1)] [] w
  unfold f_X6_count at hf
  refine g_iload_n X (i := 1) dX6_count_0 rfl rfl ?_
  rcases hfi (q := x1 = 10) hf with ⟨c1, hf⟩ | ⟨c1, hf⟩
  · refine g_tableIn X dX6_count_1 (by rw [c1]; decide) (by rw [c1]; decide) (by rw [c1]; rfl) (tgt := 28) (by decide) ?_
    refine g_aload_n X (i := 0) dX6_count_28 rfl rfl ?_
    refine g_get X (q0 := 2) (v := .ref (ad 3)) 3 dX6_count_29 gC_X6 rfl rfl (by decide) fl_X6_25 rfl rfl ?_
    refine g_get X (q0 := 3) (v := .int (w.2.2 2)) 2 dX6_count_32 gC_X2 rfl rfl (by decide) fl_X6_114 rfl rfl ?_
    exact g_iret X hr dX6_count_35 hf
  rcases hfi (q := x1 = 11) hf with ⟨c2, hf⟩ | ⟨c2, hf⟩
  · refine g_tableIn X dX6_count_1 (by rw [c2]; decide) (by rw [c2]; decide) (by rw [c2]; rfl) (tgt := 36) (by decide) ?_
    refine g_aload_n X (i := 0) dX6_count_36 rfl rfl ?_
    refine g_get X (q0 := 2) (v := .ref (ad 0)) 4 dX6_count_37 gC_X6 rfl rfl (by decide) fl_X6_32 rfl rfl ?_
    refine g_get X (q0 := 0) (v := .int (w.2.1.1 0)) 1 dX6_count_40 gC_X0 rfl rfl (by decide) fl_X6_118 rfl rfl ?_
    exact g_iret X hr dX6_count_43 hf
  rcases hfi (q := x1 = 12) hf with ⟨c3, hf⟩ | ⟨c3, hf⟩
  · refine g_tableIn X dX6_count_1 (by rw [c3]; decide) (by rw [c3]; decide) (by rw [c3]; rfl) (tgt := 44) (by decide) ?_
    refine g_aload_n X (i := 0) dX6_count_44 rfl rfl ?_
    refine g_get X (q0 := 2) (v := .int (w.2.2 0)) 5 dX6_count_45 gC_X6 rfl rfl (by decide) fl_X6_36 rfl rfl ?_
    refine g_if_eq X dX6_count_48 (tgt := 55) (by decide) hf (fun c4 hf => ?_) (fun c4 hf => ?_)
    · refine g_iconst X dX6_count_55 (v := 0) (by decide) ?_
      exact g_iret X hr dX6_count_56 hf
    · refine g_iconst X dX6_count_51 (v := 1) (by decide) ?_
      refine g_goto X dX6_count_52 (tgt := 56) (by decide) ?_
      exact g_iret X hr dX6_count_56 hf
  refine g_tableOut X dX6_count_1 (sw_out x1 10 12 [10, 11, 12] rfl (List.forall_mem_cons.mpr ⟨c1, List.forall_mem_cons.mpr ⟨c2, List.forall_mem_cons.mpr ⟨c3, fun _ h => absurd h List.not_mem_nil⟩⟩⟩)) (tgt := 57) (by decide) ?_
  refine g_aload_n X (i := 0) dX6_count_57 rfl rfl ?_
  refine g_get X (q0 := 2) (v := .ref (ad 5)) 0 dX6_count_58 gC_X6 rfl rfl (by decide) fl_X6_10 rfl rfl ?_
  refine g_iload_n X (i := 1) dX6_count_61 rfl rfl ?_
  obtain ⟨o5, h6, hf⟩ := hfb hf
  refine g_Vi X (q0 := 5) (As := [.int x1]) (rest := []) (liftT_i (i := 0) (by decide) (c_X5_tellNumber (ad := rho (5 + 11 * 0) ad) h6)) dX6_count_62 ml_X6_121 yv_X5_tellNumber rfl rfl rfl rfl ⟨Nat.le_of_ble_eq_true rfl, Nat.le_of_ble_eq_true rfl⟩ ⟨rfl, rfl⟩ (Nat.le_of_ble_eq_true rfl) ⟨Nat.le_of_ble_eq_true rfl, Nat.le_of_ble_eq_true rfl⟩ ?_
  exact g_iret X hr dX6_count_65 hf
def f_X6_field (x1 x2 x3 : Int32) (w : TT) : Option (Int32 × TT) := (f_X2_note w).bind fun o1 => (f_X5_writeField x1 x2 x3 (mix o1.2 0)).bind fun o3 => (f_X2_settle o3.1 (put o1.2 0 o3.2)).bind fun o5 => some (o5.1, o5.2)
set_option maxRecDepth 100000 in
set_option maxHeartbeats 4000000 in
theorem c_X6_field {l : Launch} {D : va_G} {cI : ClassId × ClassId} {A : Nat → Prop} {ad : Nat → Nat} {x1 x2 x3 : Int32} {w : TT} {o : Int32 × TT} (hf : f_X6_field x1 x2 x3 w = some o) : CTi l D cI A yX6_field cX6_field 4 (some .int) rm_X6_field [.ref (ad 2), .int x1, .int x2, .int x3] ((wT ad cI) w) o.1 ((wT ad cI) o.2)   := by
  refine CTi.of (by decide +kernel) rfl (Nat.le_of_ble_eq_true rfl) ?_
  intro p e s m args below meth c X hr
  have X : gX p s m args meth c cX6_field 4 RX6 D cI := X
  show G _ _ _ _ _ _ _ _ _ _ _ _ _ _ _ _ _ 0 [some (.ref (ad 2)), some (.int x1), some (.int x2), some (.int x3)] [] w
  unfold f_X6_field at hf
  refine g_aload_n X (i := 0) dX6_field_0 rfl rfl ?_
  refine g_get X (q0 := 2) (v := .ref (ad 3)) 3 dX6_field_1 gC_X6 rfl rfl (by decide) fl_X6_25 rfl rfl ?_
  refine g_aload_n X (i := 0) dX6_field_4 rfl rfl ?_
  refine g_get X (q0 := 2) (v := .ref (ad 5)) 0 dX6_field_5 gC_X6 rfl rfl (by decide) fl_X6_10 rfl rfl ?_
  obtain ⟨o1, h2, hf⟩ := hfb hf
  refine g_Vv X (q0 := 3) (As := [.ref (ad 5)]) (rest := []) (c_X2_note h2) dX6_field_8 ml_X6_40 yv_X2_note rfl rfl rfl rfl ⟨Nat.le_of_ble_eq_true rfl, Nat.le_of_ble_eq_true rfl⟩ ⟨rfl, rfl⟩ (Nat.le_of_ble_eq_true rfl) ⟨Nat.le_of_ble_eq_true rfl, Nat.le_of_ble_eq_true rfl⟩ ?_
  refine g_aload_n X (i := 0) dX6_field_11 rfl rfl ?_
  refine g_get X (q0 := 2) (v := .ref (ad 3)) 3 dX6_field_12 gC_X6 rfl rfl (by decide) fl_X6_25 rfl rfl ?_
  refine g_aload_n X (i := 0) dX6_field_15 rfl rfl ?_
  refine g_get X (q0 := 2) (v := .ref (ad 5)) 0 dX6_field_16 gC_X6 rfl rfl (by decide) fl_X6_10 rfl rfl ?_
  refine g_iload_n X (i := 1) dX6_field_19 rfl rfl ?_
  refine g_iload_n X (i := 2) dX6_field_20 rfl rfl ?_
  refine g_iload_n X (i := 3) dX6_field_21 rfl rfl ?_
  obtain ⟨o3, h4, hf⟩ := hfb hf
  refine g_Vi X (q0 := 5) (As := [.int x1, .int x2, .int x3]) (rest := [.ref (ad 3)]) (liftT_i (i := 0) (by decide) (c_X5_writeField (ad := rho (5 + 11 * 0) ad) h4)) dX6_field_22 ml_X6_51 yv_X5_writeField rfl rfl rfl rfl ⟨Nat.le_of_ble_eq_true rfl, Nat.le_of_ble_eq_true rfl⟩ ⟨rfl, rfl⟩ (Nat.le_of_ble_eq_true rfl) ⟨Nat.le_of_ble_eq_true rfl, Nat.le_of_ble_eq_true rfl⟩ ?_
  obtain ⟨o5, h6, hf⟩ := hfb hf
  refine g_Vi X (q0 := 3) (As := [.int o3.1]) (rest := []) (c_X2_settle h6) dX6_field_25 ml_X6_48 yv_X2_settle rfl rfl rfl rfl ⟨Nat.le_of_ble_eq_true rfl, Nat.le_of_ble_eq_true rfl⟩ ⟨rfl, rfl⟩ (Nat.le_of_ble_eq_true rfl) ⟨Nat.le_of_ble_eq_true rfl, Nat.le_of_ble_eq_true rfl⟩ ?_
  exact g_iret X hr dX6_field_28 hf
def f_X6_finish (x1 : Int32) (w : TT) : Option (Int32 × TT) := (f_X2_note w).bind fun o1 => (f_X5_finishFirst x1 (mix o1.2 0)).bind fun o3 => (f_X2_settle o3.1 (put o1.2 0 o3.2)).bind fun o5 => some (o5.1, o5.2)
set_option maxRecDepth 100000 in
set_option maxHeartbeats 4000000 in
theorem c_X6_finish {l : Launch} {D : va_G} {cI : ClassId × ClassId} {A : Nat → Prop} {ad : Nat → Nat} {x1 : Int32} {w : TT} {o : Int32 × TT} (hf : f_X6_finish x1 w = some o) : CTi l D cI A yX6_finish cX6_finish 2 (some .int) rm_X6_finish [.ref (ad 2), .int x1] ((wT ad cI) w) o.1 ((wT ad cI) o.2)   := by
  refine CTi.of (by decide +kernel) rfl (Nat.le_of_ble_eq_true rfl) ?_
  intro p e s m args below meth c X hr
  have X : gX p s m args meth c cX6_finish 2 RX6 D cI := X
  show G _ _ _ _ _ _ _ _ _ _ _ _ _ _ _ _ _ 0 [some (.ref (ad 2)), some (.int x1)] [] w
  unfold f_X6_finish at hf
  refine g_aload_n X (i := 0) dX6_finish_0 rfl rfl ?_
  refine g_get X (q0 := 2) (v := .ref (ad 3)) 3 dX6_finish_1 gC_X6 rfl rfl (by decide) fl_X6_25 rfl rfl ?_
  refine g_aload_n X (i := 0) dX6_finish_4 rfl rfl ?_
  refine g_get X (q0 := 2) (v := .ref (ad 5)) 0 dX6_finish_5 gC_X6 rfl rfl (by decide) fl_X6_10 rfl rfl ?_
  obtain ⟨o1, h2, hf⟩ := hfb hf
  refine g_Vv X (q0 := 3) (As := [.ref (ad 5)]) (rest := []) (c_X2_note h2) dX6_finish_8 ml_X6_40 yv_X2_note rfl rfl rfl rfl ⟨Nat.le_of_ble_eq_true rfl, Nat.le_of_ble_eq_true rfl⟩ ⟨rfl, rfl⟩ (Nat.le_of_ble_eq_true rfl) ⟨Nat.le_of_ble_eq_true rfl, Nat.le_of_ble_eq_true rfl⟩ ?_
  refine g_aload_n X (i := 0) dX6_finish_11 rfl rfl ?_
  refine g_get X (q0 := 2) (v := .ref (ad 3)) 3 dX6_finish_12 gC_X6 rfl rfl (by decide) fl_X6_25 rfl rfl ?_
  refine g_aload_n X (i := 0) dX6_finish_15 rfl rfl ?_
  refine g_get X (q0 := 2) (v := .ref (ad 5)) 0 dX6_finish_16 gC_X6 rfl rfl (by decide) fl_X6_10 rfl rfl ?_
  refine g_iload_n X (i := 1) dX6_finish_19 rfl rfl ?_
  obtain ⟨o3, h4, hf⟩ := hfb hf
  refine g_Vi X (q0 := 5) (As := [.int x1]) (rest := [.ref (ad 3)]) (liftT_i (i := 0) (by decide) (c_X5_finishFirst (ad := rho (5 + 11 * 0) ad) h4)) dX6_finish_20 ml_X6_68 yv_X5_finishFirst rfl rfl rfl rfl ⟨Nat.le_of_ble_eq_true rfl, Nat.le_of_ble_eq_true rfl⟩ ⟨rfl, rfl⟩ (Nat.le_of_ble_eq_true rfl) ⟨Nat.le_of_ble_eq_true rfl, Nat.le_of_ble_eq_true rfl⟩ ?_
  obtain ⟨o5, h6, hf⟩ := hfb hf
  refine g_Vi X (q0 := 3) (As := [.int o3.1]) (rest := []) (c_X2_settle h6) dX6_finish_23 ml_X6_48 yv_X2_settle rfl rfl rfl rfl ⟨Nat.le_of_ble_eq_true rfl, Nat.le_of_ble_eq_true rfl⟩ ⟨rfl, rfl⟩ (Nat.le_of_ble_eq_true rfl) ⟨Nat.le_of_ble_eq_true rfl, Nat.le_of_ble_eq_true rfl⟩ ?_
  exact g_iret X hr dX6_finish_26 hf
def f_X6_grey (x1 : Int32) (w : TT) : Option (Int32 × TT) := (if x1 < 0 then some ((-11), w) else (f_X3_at_6 x1 (mix w 0)).bind fun o2 => (if o2.1 = (-1) then some ((-14), (put w 0 o2.2)) else some (o2.1, (put w 0 o2.2))))
set_option maxRecDepth 100000 in
set_option maxHeartbeats 4000000 in
theorem c_X6_grey {l : Launch} {D : va_G} {cI : ClassId × ClassId} {A : Nat → Prop} {ad : Nat → Nat} {x1 : Int32} {w : TT} {o : Int32 × TT} (hf : f_X6_grey x1 w = some o) : CTi l D cI A yX6_grey cX6_grey 3 (some .int) rm_X6_grey [.ref (ad 2), .int x1] ((wT ad cI) w) o.1 ((wT ad cI) o.2)   := by
  refine CTi.of (by decide +kernel) rfl (Nat.le_of_ble_eq_true rfl) ?_
  intro p e s m args below meth c X hr
  have X : gX p s m args meth c cX6_grey 3 RX6 D cI := X
  show G _ _ _ _ _ _ _ _ _ _ _ _ _ _ _ _ _ 0 [some (.ref (ad 2)), some (.int x1), none] [] w
  unfold f_X6_grey at hf
  refine g_iload_n X (i := 1) dX6_grey_0 rfl rfl ?_
  refine g_if_ge X dX6_grey_1 (tgt := 7) (by decide) hf (fun c1 hf => ?_) (fun c1 hf => ?_)
  · refine g_bipush X dX6_grey_4 (v := (-11)) (by decide) ?_
    exact g_iret X hr dX6_grey_6 hf
  · refine g_aload_n X (i := 0) dX6_grey_7 rfl rfl ?_
    refine g_get X (q0 := 2) (v := .ref (ad 5)) 0 dX6_grey_8 gC_X6 rfl rfl (by decide) fl_X6_10 rfl rfl ?_
    refine g_get X (q0 := 5) (v := .ref (ad 7)) 1 dX6_grey_11 gC_X5 rfl rfl (by decide) fl_X6_96 rfl rfl ?_
    refine g_get X (q0 := 7) (v := .ref (ad 9)) 3 dX6_grey_14 gC_X4 rfl rfl (by decide) fl_X6_100 rfl rfl ?_
    refine g_iload_n X (i := 1) dX6_grey_17 rfl rfl ?_
    obtain ⟨o2, h3, hf⟩ := hfb hf
    refine g_Vi X (q0 := 9) (As := [.int x1]) (rest := []) (liftT_i (i := 0) (by decide) (c_X3_at_6 (ad := rho (5 + 11 * 0) ad) h3)) dX6_grey_18 ml_X6_106 yv_X3_at rfl rfl rfl rfl ⟨Nat.le_of_ble_eq_true rfl, Nat.le_of_ble_eq_true rfl⟩ ⟨rfl, rfl⟩ (Nat.le_of_ble_eq_true rfl) ⟨Nat.le_of_ble_eq_true rfl, Nat.le_of_ble_eq_true rfl⟩ ?_
    refine g_istore_n X (i := 2) dX6_grey_21 rfl (by decide) rfl ?_
    refine g_iload_n X (i := 2) dX6_grey_22 rfl rfl ?_
    refine g_iconst X dX6_grey_23 (v := (-1)) (by decide) ?_
    refine g_icmp_ne X dX6_grey_24 (tgt := 32) (by decide) hf (fun c4 hf => ?_) (fun c4 hf => ?_)
    · refine g_bipush X dX6_grey_27 (v := (-14)) (by decide) ?_
      refine g_goto X dX6_grey_29 (tgt := 33) (by decide) ?_
      exact g_iret X hr dX6_grey_33 hf
    · refine g_iload_n X (i := 2) dX6_grey_32 rfl rfl ?_
      exact g_iret X hr dX6_grey_33 hf
def f_X6_make (x1 : Int32) (w : TT) : Option (Int32 × TT) := (f_X2_note w).bind fun o1 => (f_X5_create x1 (mix o1.2 0)).bind fun o3 => (f_X2_settle o3.1 (put o1.2 0 o3.2)).bind fun o5 => some (o5.1, o5.2)
set_option maxRecDepth 100000 in
set_option maxHeartbeats 4000000 in
theorem c_X6_make {l : Launch} {D : va_G} {cI : ClassId × ClassId} {A : Nat → Prop} {ad : Nat → Nat} {x1 : Int32} {w : TT} {o : Int32 × TT} (hf : f_X6_make x1 w = some o) : CTi l D cI A yX6_make cX6_make 2 (some .int) rm_X6_make [.ref (ad 2), .int x1] ((wT ad cI) w) o.1 ((wT ad cI) o.2)   := by
  refine CTi.of (by decide +kernel) rfl (Nat.le_of_ble_eq_true rfl) ?_
  intro p e s m args below meth c X hr
  have X : gX p s m args meth c cX6_make 2 RX6 D cI := X
  show G _ _ _ _ _ _ _ _ _ _ _ _ _ _ _ _ _ 0 [some (.ref (ad 2)), some (.int x1)] [] w
  unfold f_X6_make at hf
  refine g_aload_n X (i := 0) dX6_make_0 rfl rfl ?_
  refine g_get X (q0 := 2) (v := .ref (ad 3)) 3 dX6_make_1 gC_X6 rfl rfl (by decide) fl_X6_25 rfl rfl ?_
  refine g_aload_n X (i := 0) dX6_make_4 rfl rfl ?_
  refine g_get X (q0 := 2) (v := .ref (ad 5)) 0 dX6_make_5 gC_X6 rfl rfl (by decide) fl_X6_10 rfl rfl ?_
  obtain ⟨o1, h2, hf⟩ := hfb hf
  refine g_Vv X (q0 := 3) (As := [.ref (ad 5)]) (rest := []) (c_X2_note h2) dX6_make_8 ml_X6_40 yv_X2_note rfl rfl rfl rfl ⟨Nat.le_of_ble_eq_true rfl, Nat.le_of_ble_eq_true rfl⟩ ⟨rfl, rfl⟩ (Nat.le_of_ble_eq_true rfl) ⟨Nat.le_of_ble_eq_true rfl, Nat.le_of_ble_eq_true rfl⟩ ?_
  refine g_aload_n X (i := 0) dX6_make_11 rfl rfl ?_
  refine g_get X (q0 := 2) (v := .ref (ad 3)) 3 dX6_make_12 gC_X6 rfl rfl (by decide) fl_X6_25 rfl rfl ?_
  refine g_aload_n X (i := 0) dX6_make_15 rfl rfl ?_
  refine g_get X (q0 := 2) (v := .ref (ad 5)) 0 dX6_make_16 gC_X6 rfl rfl (by decide) fl_X6_10 rfl rfl ?_
  refine g_iload_n X (i := 1) dX6_make_19 rfl rfl ?_
  obtain ⟨o3, h4, hf⟩ := hfb hf
  refine g_Vi X (q0 := 5) (As := [.int x1]) (rest := [.ref (ad 3)]) (liftT_i (i := 0) (by decide) (c_X5_create (ad := rho (5 + 11 * 0) ad) h4)) dX6_make_20 ml_X6_44 yv_X5_create rfl rfl rfl rfl ⟨Nat.le_of_ble_eq_true rfl, Nat.le_of_ble_eq_true rfl⟩ ⟨rfl, rfl⟩ (Nat.le_of_ble_eq_true rfl) ⟨Nat.le_of_ble_eq_true rfl, Nat.le_of_ble_eq_true rfl⟩ ?_
  obtain ⟨o5, h6, hf⟩ := hfb hf
  refine g_Vi X (q0 := 3) (As := [.int o3.1]) (rest := []) (c_X2_settle h6) dX6_make_23 ml_X6_48 yv_X2_settle rfl rfl rfl rfl ⟨Nat.le_of_ble_eq_true rfl, Nat.le_of_ble_eq_true rfl⟩ ⟨rfl, rfl⟩ (Nat.le_of_ble_eq_true rfl) ⟨Nat.le_of_ble_eq_true rfl, Nat.le_of_ble_eq_true rfl⟩ ?_
  exact g_iret X hr dX6_make_26 hf
def f_X6_objectOf (x1 x2 : Int32) (w : TT) : Option (Int32 × TT) := (f_X5_tellObject x1 x2 (mix w 0)).bind fun o1 => some (o1.1, (put w 0 o1.2))
set_option maxRecDepth 100000 in
set_option maxHeartbeats 4000000 in
theorem c_X6_objectOf {l : Launch} {D : va_G} {cI : ClassId × ClassId} {A : Nat → Prop} {ad : Nat → Nat} {x1 x2 : Int32} {w : TT} {o : Int32 × TT} (hf : f_X6_objectOf x1 x2 w = some o) : CTi l D cI A yX6_objectOf cX6_objectOf 3 (some .int) rm_X6_objectOf [.ref (ad 2), .int x1, .int x2] ((wT ad cI) w) o.1 ((wT ad cI) o.2)   := by
  refine CTi.of (by decide +kernel) rfl (Nat.le_of_ble_eq_true rfl) ?_
  intro p e s m args below meth c X hr
  have X : gX p s m args meth c cX6_objectOf 3 RX6 D cI := X
  show G _ _ _ _ _ _ _ _ _ _ _ _ _ _ _ _ _ 0 [some (.ref (ad 2)), some (.int x1), some (.int x2)] [] w
  unfold f_X6_objectOf at hf
  refine g_aload_n X (i := 0) dX6_objectOf_0 rfl rfl ?_
  refine g_get X (q0 := 2) (v := .ref (ad 5)) 0 dX6_objectOf_1 gC_X6 rfl rfl (by decide) fl_X6_10 rfl rfl ?_
  refine g_iload_n X (i := 1) dX6_objectOf_4 rfl rfl ?_
  refine g_iload_n X (i := 2) dX6_objectOf_5 rfl rfl ?_
  obtain ⟨o1, h2, hf⟩ := hfb hf
  refine g_Vi X (q0 := 5) (As := [.int x1, .int x2]) (rest := []) (liftT_i (i := 0) (by decide) (c_X5_tellObject (ad := rho (5 + 11 * 0) ad) h2)) dX6_objectOf_6 ml_X6_84 yv_X5_tellObject rfl rfl rfl rfl ⟨Nat.le_of_ble_eq_true rfl, Nat.le_of_ble_eq_true rfl⟩ ⟨rfl, rfl⟩ (Nat.le_of_ble_eq_true rfl) ⟨Nat.le_of_ble_eq_true rfl, Nat.le_of_ble_eq_true rfl⟩ ?_
  exact g_iret X hr dX6_objectOf_9 hf
def f_X6_objects (x1 : Int32) (w : TT) : Option (Int32 × TT) := (f_X5_tellSet x1 (mix w 0)).bind fun o1 => some (o1.1, (put w 0 o1.2))
set_option maxRecDepth 100000 in
set_option maxHeartbeats 4000000 in
theorem c_X6_objects {l : Launch} {D : va_G} {cI : ClassId × ClassId} {A : Nat → Prop} {ad : Nat → Nat} {x1 : Int32} {w : TT} {o : Int32 × TT} (hf : f_X6_objects x1 w = some o) : CTi l D cI A yX6_objects cX6_objects 2 (some .int) rm_X6_objects [.ref (ad 2), .int x1] ((wT ad cI) w) o.1 ((wT ad cI) o.2)   := by
  refine CTi.of (by decide +kernel) rfl (Nat.le_of_ble_eq_true rfl) ?_
  intro p e s m args below meth c X hr
  have X : gX p s m args meth c cX6_objects 2 RX6 D cI := X
  show G _ _ _ _ _ _ _ _ _ _ _ _ _ _ _ _ _ 0 [some (.ref (ad 2)), some (.int x1)] [] w
  unfold f_X6_objects at hf
  refine g_aload_n X (i := 0) dX6_objects_0 rfl rfl ?_
  refine g_get X (q0 := 2) (v := .ref (ad 5)) 0 dX6_objects_1 gC_X6 rfl rfl (by decide) fl_X6_10 rfl rfl ?_
  refine g_iload_n X (i := 1) dX6_objects_4 rfl rfl ?_
  obtain ⟨o1, h2, hf⟩ := hfb hf
  refine g_Vi X (q0 := 5) (As := [.int x1]) (rest := []) (liftT_i (i := 0) (by decide) (c_X5_tellSet (ad := rho (5 + 11 * 0) ad) h2)) dX6_objects_5 ml_X6_111 yv_X5_tellSet rfl rfl rfl rfl ⟨Nat.le_of_ble_eq_true rfl, Nat.le_of_ble_eq_true rfl⟩ ⟨rfl, rfl⟩ (Nat.le_of_ble_eq_true rfl) ⟨Nat.le_of_ble_eq_true rfl, Nat.le_of_ble_eq_true rfl⟩ ?_
  exact g_iret X hr dX6_objects_8 hf
def f_X6_refers (x1 x2 : Int32) (w : TT) : Option (Int32 × TT) := (f_X1_tellReferred x1 x2 (mix w 0)).bind fun o1 => some (o1.1, (put w 0 o1.2))
set_option maxRecDepth 100000 in
set_option maxHeartbeats 4000000 in
theorem c_X6_refers {l : Launch} {D : va_G} {cI : ClassId × ClassId} {A : Nat → Prop} {ad : Nat → Nat} {x1 x2 : Int32} {w : TT} {o : Int32 × TT} (hf : f_X6_refers x1 x2 w = some o) : CTi l D cI A yX6_refers cX6_refers 3 (some .int) rm_X6_refers [.ref (ad 2), .int x1, .int x2] ((wT ad cI) w) o.1 ((wT ad cI) o.2)   := by
  refine CTi.of (by decide +kernel) rfl (Nat.le_of_ble_eq_true rfl) ?_
  intro p e s m args below meth c X hr
  have X : gX p s m args meth c cX6_refers 3 RX6 D cI := X
  show G _ _ _ _ _ _ _ _ _ _ _ _ _ _ _ _ _ 0 [some (.ref (ad 2)), some (.int x1), some (.int x2)] [] w
  unfold f_X6_refers at hf
  refine g_aload_n X (i := 0) dX6_refers_0 rfl rfl ?_
  refine g_get X (q0 := 2) (v := .ref (ad 5)) 0 dX6_refers_1 gC_X6 rfl rfl (by decide) fl_X6_10 rfl rfl ?_
  refine g_get X (q0 := 5) (v := .ref (ad 6)) 0 dX6_refers_4 gC_X5 rfl rfl (by decide) fl_X6_87 rfl rfl ?_
  refine g_iload_n X (i := 1) dX6_refers_7 rfl rfl ?_
  refine g_iload_n X (i := 2) dX6_refers_8 rfl rfl ?_
  obtain ⟨o1, h2, hf⟩ := hfb hf
  refine g_Vi X (q0 := 6) (As := [.int x1, .int x2]) (rest := []) (liftT_i (i := 0) (by decide) (c_X1_tellReferred (ad := rho (5 + 11 * 0) ad) h2)) dX6_refers_9 ml_X6_91 yv_X1_tellReferred rfl rfl rfl rfl ⟨Nat.le_of_ble_eq_true rfl, Nat.le_of_ble_eq_true rfl⟩ ⟨rfl, rfl⟩ (Nat.le_of_ble_eq_true rfl) ⟨Nat.le_of_ble_eq_true rfl, Nat.le_of_ble_eq_true rfl⟩ ?_
  exact g_iret X hr dX6_refers_12 hf
def f_X6_root (x1 x2 : Int32) (w : TT) : Option (Int32 × TT) := (f_X2_note w).bind fun o1 => (f_X5_writeRoot x1 x2 (mix o1.2 0)).bind fun o3 => (f_X2_settle o3.1 (put o1.2 0 o3.2)).bind fun o5 => some (o5.1, o5.2)
set_option maxRecDepth 100000 in
set_option maxHeartbeats 4000000 in
theorem c_X6_root {l : Launch} {D : va_G} {cI : ClassId × ClassId} {A : Nat → Prop} {ad : Nat → Nat} {x1 x2 : Int32} {w : TT} {o : Int32 × TT} (hf : f_X6_root x1 x2 w = some o) : CTi l D cI A yX6_root cX6_root 3 (some .int) rm_X6_root [.ref (ad 2), .int x1, .int x2] ((wT ad cI) w) o.1 ((wT ad cI) o.2)   := by
  refine CTi.of (by decide +kernel) rfl (Nat.le_of_ble_eq_true rfl) ?_
  intro p e s m args below meth c X hr
  have X : gX p s m args meth c cX6_root 3 RX6 D cI := X
  show G _ _ _ _ _ _ _ _ _ _ _ _ _ _ _ _ _ 0 [some (.ref (ad 2)), some (.int x1), some (.int x2)] [] w
  unfold f_X6_root at hf
  refine g_aload_n X (i := 0) dX6_root_0 rfl rfl ?_
  refine g_get X (q0 := 2) (v := .ref (ad 3)) 3 dX6_root_1 gC_X6 rfl rfl (by decide) fl_X6_25 rfl rfl ?_
  refine g_aload_n X (i := 0) dX6_root_4 rfl rfl ?_
  refine g_get X (q0 := 2) (v := .ref (ad 5)) 0 dX6_root_5 gC_X6 rfl rfl (by decide) fl_X6_10 rfl rfl ?_
  obtain ⟨o1, h2, hf⟩ := hfb hf
  refine g_Vv X (q0 := 3) (As := [.ref (ad 5)]) (rest := []) (c_X2_note h2) dX6_root_8 ml_X6_40 yv_X2_note rfl rfl rfl rfl ⟨Nat.le_of_ble_eq_true rfl, Nat.le_of_ble_eq_true rfl⟩ ⟨rfl, rfl⟩ (Nat.le_of_ble_eq_true rfl) ⟨Nat.le_of_ble_eq_true rfl, Nat.le_of_ble_eq_true rfl⟩ ?_
  refine g_aload_n X (i := 0) dX6_root_11 rfl rfl ?_
  refine g_get X (q0 := 2) (v := .ref (ad 3)) 3 dX6_root_12 gC_X6 rfl rfl (by decide) fl_X6_25 rfl rfl ?_
  refine g_aload_n X (i := 0) dX6_root_15 rfl rfl ?_
  refine g_get X (q0 := 2) (v := .ref (ad 5)) 0 dX6_root_16 gC_X6 rfl rfl (by decide) fl_X6_10 rfl rfl ?_
  refine g_iload_n X (i := 1) dX6_root_19 rfl rfl ?_
  refine g_iload_n X (i := 2) dX6_root_20 rfl rfl ?_
  obtain ⟨o3, h4, hf⟩ := hfb hf
  refine g_Vi X (q0 := 5) (As := [.int x1, .int x2]) (rest := [.ref (ad 3)]) (liftT_i (i := 0) (by decide) (c_X5_writeRoot (ad := rho (5 + 11 * 0) ad) h4)) dX6_root_21 ml_X6_55 yv_X5_writeRoot rfl rfl rfl rfl ⟨Nat.le_of_ble_eq_true rfl, Nat.le_of_ble_eq_true rfl⟩ ⟨rfl, rfl⟩ (Nat.le_of_ble_eq_true rfl) ⟨Nat.le_of_ble_eq_true rfl, Nat.le_of_ble_eq_true rfl⟩ ?_
  obtain ⟨o5, h6, hf⟩ := hfb hf
  refine g_Vi X (q0 := 3) (As := [.int o3.1]) (rest := []) (c_X2_settle h6) dX6_root_24 ml_X6_48 yv_X2_settle rfl rfl rfl rfl ⟨Nat.le_of_ble_eq_true rfl, Nat.le_of_ble_eq_true rfl⟩ ⟨rfl, rfl⟩ (Nat.le_of_ble_eq_true rfl) ⟨Nat.le_of_ble_eq_true rfl, Nat.le_of_ble_eq_true rfl⟩ ?_
  exact g_iret X hr dX6_root_27 hf
def f_X6_set (x1 : Int32) (w : TT) : Option (Int32 × TT) := (f_X2_note w).bind fun o1 => (f_X5_setCare x1 (mix o1.2 0)).bind fun o3 => (f_X2_settle o3.1 (put o1.2 0 o3.2)).bind fun o5 => some (o5.1, o5.2)
set_option maxRecDepth 100000 in
set_option maxHeartbeats 4000000 in
theorem c_X6_set {l : Launch} {D : va_G} {cI : ClassId × ClassId} {A : Nat → Prop} {ad : Nat → Nat} {x1 : Int32} {w : TT} {o : Int32 × TT} (hf : f_X6_set x1 w = some o) : CTi l D cI A yX6_set cX6_set 2 (some .int) rm_X6_set [.ref (ad 2), .int x1] ((wT ad cI) w) o.1 ((wT ad cI) o.2)   := by
  refine CTi.of (by decide +kernel) rfl (Nat.le_of_ble_eq_true rfl) ?_
  intro p e s m args below meth c X hr
  have X : gX p s m args meth c cX6_set 2 RX6 D cI := X
  show G _ _ _ _ _ _ _ _ _ _ _ _ _ _ _ _ _ 0 [some (.ref (ad 2)), some (.int x1)] [] w
  unfold f_X6_set at hf
  refine g_aload_n X (i := 0) dX6_set_0 rfl rfl ?_
  refine g_get X (q0 := 2) (v := .ref (ad 3)) 3 dX6_set_1 gC_X6 rfl rfl (by decide) fl_X6_25 rfl rfl ?_
  refine g_aload_n X (i := 0) dX6_set_4 rfl rfl ?_
  refine g_get X (q0 := 2) (v := .ref (ad 5)) 0 dX6_set_5 gC_X6 rfl rfl (by decide) fl_X6_10 rfl rfl ?_
  obtain ⟨o1, h2, hf⟩ := hfb hf
  refine g_Vv X (q0 := 3) (As := [.ref (ad 5)]) (rest := []) (c_X2_note h2) dX6_set_8 ml_X6_40 yv_X2_note rfl rfl rfl rfl ⟨Nat.le_of_ble_eq_true rfl, Nat.le_of_ble_eq_true rfl⟩ ⟨rfl, rfl⟩ (Nat.le_of_ble_eq_true rfl) ⟨Nat.le_of_ble_eq_true rfl, Nat.le_of_ble_eq_true rfl⟩ ?_
  refine g_aload_n X (i := 0) dX6_set_11 rfl rfl ?_
  refine g_get X (q0 := 2) (v := .ref (ad 3)) 3 dX6_set_12 gC_X6 rfl rfl (by decide) fl_X6_25 rfl rfl ?_
  refine g_aload_n X (i := 0) dX6_set_15 rfl rfl ?_
  refine g_get X (q0 := 2) (v := .ref (ad 5)) 0 dX6_set_16 gC_X6 rfl rfl (by decide) fl_X6_10 rfl rfl ?_
  refine g_iload_n X (i := 1) dX6_set_19 rfl rfl ?_
  obtain ⟨o3, h4, hf⟩ := hfb hf
  refine g_Vi X (q0 := 5) (As := [.int x1]) (rest := [.ref (ad 3)]) (liftT_i (i := 0) (by decide) (c_X5_setCare (ad := rho (5 + 11 * 0) ad) h4)) dX6_set_20 ml_X6_81 yv_X5_setCare rfl rfl rfl rfl ⟨Nat.le_of_ble_eq_true rfl, Nat.le_of_ble_eq_true rfl⟩ ⟨rfl, rfl⟩ (Nat.le_of_ble_eq_true rfl) ⟨Nat.le_of_ble_eq_true rfl, Nat.le_of_ble_eq_true rfl⟩ ?_
  obtain ⟨o5, h6, hf⟩ := hfb hf
  refine g_Vi X (q0 := 3) (As := [.int o3.1]) (rest := []) (c_X2_settle h6) dX6_set_23 ml_X6_48 yv_X2_settle rfl rfl rfl rfl ⟨Nat.le_of_ble_eq_true rfl, Nat.le_of_ble_eq_true rfl⟩ ⟨rfl, rfl⟩ (Nat.le_of_ble_eq_true rfl) ⟨Nat.le_of_ble_eq_true rfl, Nat.le_of_ble_eq_true rfl⟩ ?_
  exact g_iret X hr dX6_set_26 hf
def f_X6_step (x1 : Int32) (w : TT) : Option (Int32 × TT) := (f_X2_note w).bind fun o1 => (f_X5_doSteps x1 (mix o1.2 0)).bind fun o3 => (f_X2_settle o3.1 (put o1.2 0 o3.2)).bind fun o5 => some (o5.1, o5.2)
set_option maxRecDepth 100000 in
set_option maxHeartbeats 4000000 in
theorem c_X6_step {l : Launch} {D : va_G} {cI : ClassId × ClassId} {A : Nat → Prop} {ad : Nat → Nat} {x1 : Int32} {w : TT} {o : Int32 × TT} (hf : f_X6_step x1 w = some o) : CTi l D cI A yX6_step cX6_step 2 (some .int) rm_X6_step [.ref (ad 2), .int x1] ((wT ad cI) w) o.1 ((wT ad cI) o.2)   := by
  refine CTi.of (by decide +kernel) rfl (Nat.le_of_ble_eq_true rfl) ?_
  intro p e s m args below meth c X hr
  have X : gX p s m args meth c cX6_step 2 RX6 D cI := X
  show G _ _ _ _ _ _ _ _ _ _ _ _ _ _ _ _ _ 0 [some (.ref (ad 2)), some (.int x1)] [] w
  unfold f_X6_step at hf
  refine g_aload_n X (i := 0) dX6_step_0 rfl rfl ?_
  refine g_get X (q0 := 2) (v := .ref (ad 3)) 3 dX6_step_1 gC_X6 rfl rfl (by decide) fl_X6_25 rfl rfl ?_
  refine g_aload_n X (i := 0) dX6_step_4 rfl rfl ?_
  refine g_get X (q0 := 2) (v := .ref (ad 5)) 0 dX6_step_5 gC_X6 rfl rfl (by decide) fl_X6_10 rfl rfl ?_
  obtain ⟨o1, h2, hf⟩ := hfb hf
  refine g_Vv X (q0 := 3) (As := [.ref (ad 5)]) (rest := []) (c_X2_note h2) dX6_step_8 ml_X6_40 yv_X2_note rfl rfl rfl rfl ⟨Nat.le_of_ble_eq_true rfl, Nat.le_of_ble_eq_true rfl⟩ ⟨rfl, rfl⟩ (Nat.le_of_ble_eq_true rfl) ⟨Nat.le_of_ble_eq_true rfl, Nat.le_of_ble_eq_true rfl⟩ ?_
  refine g_aload_n X (i := 0) dX6_step_11 rfl rfl ?_
  refine g_get X (q0 := 2) (v := .ref (ad 3)) 3 dX6_step_12 gC_X6 rfl rfl (by decide) fl_X6_25 rfl rfl ?_
  refine g_aload_n X (i := 0) dX6_step_15 rfl rfl ?_
  refine g_get X (q0 := 2) (v := .ref (ad 5)) 0 dX6_step_16 gC_X6 rfl rfl (by decide) fl_X6_10 rfl rfl ?_
  refine g_iload_n X (i := 1) dX6_step_19 rfl rfl ?_
  obtain ⟨o3, h4, hf⟩ := hfb hf
  refine g_Vi X (q0 := 5) (As := [.int x1]) (rest := [.ref (ad 3)]) (liftT_i (i := 0) (by decide) (c_X5_doSteps (ad := rho (5 + 11 * 0) ad) h4)) dX6_step_20 ml_X6_75 yv_X5_doSteps rfl rfl rfl rfl ⟨Nat.le_of_ble_eq_true rfl, Nat.le_of_ble_eq_true rfl⟩ ⟨rfl, rfl⟩ (Nat.le_of_ble_eq_true rfl) ⟨Nat.le_of_ble_eq_true rfl, Nat.le_of_ble_eq_true rfl⟩ ?_
  obtain ⟨o5, h6, hf⟩ := hfb hf
  refine g_Vi X (q0 := 3) (As := [.int o3.1]) (rest := []) (c_X2_settle h6) dX6_step_23 ml_X6_48 yv_X2_settle rfl rfl rfl rfl ⟨Nat.le_of_ble_eq_true rfl, Nat.le_of_ble_eq_true rfl⟩ ⟨rfl, rfl⟩ (Nat.le_of_ble_eq_true rfl) ⟨Nat.le_of_ble_eq_true rfl, Nat.le_of_ble_eq_true rfl⟩ ?_
  exact g_iret X hr dX6_step_26 hf
def f_X6_want (x1 : Int32) (w : TT) : Option (Int32 × TT) := (f_X2_note w).bind fun o1 => (f_X5_wishFinish x1 (mix o1.2 0)).bind fun o3 => (f_X2_settle o3.1 (put o1.2 0 o3.2)).bind fun o5 => some (o5.1, o5.2)
set_option maxRecDepth 100000 in
set_option maxHeartbeats 4000000 in
theorem c_X6_want {l : Launch} {D : va_G} {cI : ClassId × ClassId} {A : Nat → Prop} {ad : Nat → Nat} {x1 : Int32} {w : TT} {o : Int32 × TT} (hf : f_X6_want x1 w = some o) : CTi l D cI A yX6_want cX6_want 2 (some .int) rm_X6_want [.ref (ad 2), .int x1] ((wT ad cI) w) o.1 ((wT ad cI) o.2)   := by
  refine CTi.of (by decide +kernel) rfl (Nat.le_of_ble_eq_true rfl) ?_
  intro p e s m args below meth c X hr
  have X : gX p s m args meth c cX6_want 2 RX6 D cI := X
  show G _ _ _ _ _ _ _ _ _ _ _ _ _ _ _ _ _ 0 [some (.ref (ad 2)), some (.int x1)] [] w
  unfold f_X6_want at hf
  refine g_aload_n X (i := 0) dX6_want_0 rfl rfl ?_
  refine g_get X (q0 := 2) (v := .ref (ad 3)) 3 dX6_want_1 gC_X6 rfl rfl (by decide) fl_X6_25 rfl rfl ?_
  refine g_aload_n X (i := 0) dX6_want_4 rfl rfl ?_
  refine g_get X (q0 := 2) (v := .ref (ad 5)) 0 dX6_want_5 gC_X6 rfl rfl (by decide) fl_X6_10 rfl rfl ?_
  obtain ⟨o1, h2, hf⟩ := hfb hf
  refine g_Vv X (q0 := 3) (As := [.ref (ad 5)]) (rest := []) (c_X2_note h2) dX6_want_8 ml_X6_40 yv_X2_note rfl rfl rfl rfl ⟨Nat.le_of_ble_eq_true rfl, Nat.le_of_ble_eq_true rfl⟩ ⟨rfl, rfl⟩ (Nat.le_of_ble_eq_true rfl) ⟨Nat.le_of_ble_eq_true rfl, Nat.le_of_ble_eq_true rfl⟩ ?_
  refine g_aload_n X (i := 0) dX6_want_11 rfl rfl ?_
  refine g_get X (q0 := 2) (v := .ref (ad 3)) 3 dX6_want_12 gC_X6 rfl rfl (by decide) fl_X6_25 rfl rfl ?_
  refine g_aload_n X (i := 0) dX6_want_15 rfl rfl ?_
  refine g_get X (q0 := 2) (v := .ref (ad 5)) 0 dX6_want_16 gC_X6 rfl rfl (by decide) fl_X6_10 rfl rfl ?_
  refine g_iload_n X (i := 1) dX6_want_19 rfl rfl ?_
  obtain ⟨o3, h4, hf⟩ := hfb hf
  refine g_Vi X (q0 := 5) (As := [.int x1]) (rest := [.ref (ad 3)]) (liftT_i (i := 0) (by decide) (c_X5_wishFinish (ad := rho (5 + 11 * 0) ad) h4)) dX6_want_20 ml_X6_65 yv_X5_wishFinish rfl rfl rfl rfl ⟨Nat.le_of_ble_eq_true rfl, Nat.le_of_ble_eq_true rfl⟩ ⟨rfl, rfl⟩ (Nat.le_of_ble_eq_true rfl) ⟨Nat.le_of_ble_eq_true rfl, Nat.le_of_ble_eq_true rfl⟩ ?_
  obtain ⟨o5, h6, hf⟩ := hfb hf
  refine g_Vi X (q0 := 3) (As := [.int o3.1]) (rest := []) (c_X2_settle h6) dX6_want_23 ml_X6_48 yv_X2_settle rfl rfl rfl rfl ⟨Nat.le_of_ble_eq_true rfl, Nat.le_of_ble_eq_true rfl⟩ ⟨rfl, rfl⟩ (Nat.le_of_ble_eq_true rfl) ⟨Nat.le_of_ble_eq_true rfl, Nat.le_of_ble_eq_true rfl⟩ ?_
  exact g_iret X hr dX6_want_26 hf
def f_X6_weak (x1 x2 : Int32) (w : TT) : Option (Int32 × TT) := (f_X2_note w).bind fun o1 => (f_X5_writeHolder x1 x2 (mix o1.2 0)).bind fun o3 => (f_X2_settle o3.1 (put o1.2 0 o3.2)).bind fun o5 => some (o5.1, o5.2)
set_option maxRecDepth 100000 in
set_option maxHeartbeats 4000000 in
theorem c_X6_weak {l : Launch} {D : va_G} {cI : ClassId × ClassId} {A : Nat → Prop} {ad : Nat → Nat} {x1 x2 : Int32} {w : TT} {o : Int32 × TT} (hf : f_X6_weak x1 x2 w = some o) : CTi l D cI A yX6_weak cX6_weak 3 (some .int) rm_X6_weak [.ref (ad 2), .int x1, .int x2] ((wT ad cI) w) o.1 ((wT ad cI) o.2)   := by
  refine CTi.of (by decide +kernel) rfl (Nat.le_of_ble_eq_true rfl) ?_
  intro p e s m args below meth c X hr
  have X : gX p s m args meth c cX6_weak 3 RX6 D cI := X
  show G _ _ _ _ _ _ _ _ _ _ _ _ _ _ _ _ _ 0 [some (.ref (ad 2)), some (.int x1), some (.int x2)] [] w
  unfold f_X6_weak at hf
  refine g_aload_n X (i := 0) dX6_weak_0 rfl rfl ?_
  refine g_get X (q0 := 2) (v := .ref (ad 3)) 3 dX6_weak_1 gC_X6 rfl rfl (by decide) fl_X6_25 rfl rfl ?_
  refine g_aload_n X (i := 0) dX6_weak_4 rfl rfl ?_
  refine g_get X (q0 := 2) (v := .ref (ad 5)) 0 dX6_weak_5 gC_X6 rfl rfl (by decide) fl_X6_10 rfl rfl ?_
  obtain ⟨o1, h2, hf⟩ := hfb hf
  refine g_Vv X (q0 := 3) (As := [.ref (ad 5)]) (rest := []) (c_X2_note h2) dX6_weak_8 ml_X6_40 yv_X2_note rfl rfl rfl rfl ⟨Nat.le_of_ble_eq_true rfl, Nat.le_of_ble_eq_true rfl⟩ ⟨rfl, rfl⟩ (Nat.le_of_ble_eq_true rfl) ⟨Nat.le_of_ble_eq_true rfl, Nat.le_of_ble_eq_true rfl⟩ ?_
  refine g_aload_n X (i := 0) dX6_weak_11 rfl rfl ?_
  refine g_get X (q0 := 2) (v := .ref (ad 3)) 3 dX6_weak_12 gC_X6 rfl rfl (by decide) fl_X6_25 rfl rfl ?_
  refine g_aload_n X (i := 0) dX6_weak_15 rfl rfl ?_
  refine g_get X (q0 := 2) (v := .ref (ad 5)) 0 dX6_weak_16 gC_X6 rfl rfl (by decide) fl_X6_10 rfl rfl ?_
  refine g_iload_n X (i := 1) dX6_weak_19 rfl rfl ?_
  refine g_iload_n X (i := 2) dX6_weak_20 rfl rfl ?_
  obtain ⟨o3, h4, hf⟩ := hfb hf
  refine g_Vi X (q0 := 5) (As := [.int x1, .int x2]) (rest := [.ref (ad 3)]) (liftT_i (i := 0) (by decide) (c_X5_writeHolder (ad := rho (5 + 11 * 0) ad) h4)) dX6_weak_21 ml_X6_59 yv_X5_writeHolder rfl rfl rfl rfl ⟨Nat.le_of_ble_eq_true rfl, Nat.le_of_ble_eq_true rfl⟩ ⟨rfl, rfl⟩ (Nat.le_of_ble_eq_true rfl) ⟨Nat.le_of_ble_eq_true rfl, Nat.le_of_ble_eq_true rfl⟩ ?_
  obtain ⟨o5, h6, hf⟩ := hfb hf
  refine g_Vi X (q0 := 3) (As := [.int o3.1]) (rest := []) (c_X2_settle h6) dX6_weak_24 ml_X6_48 yv_X2_settle rfl rfl rfl rfl ⟨Nat.le_of_ble_eq_true rfl, Nat.le_of_ble_eq_true rfl⟩ ⟨rfl, rfl⟩ (Nat.le_of_ble_eq_true rfl) ⟨Nat.le_of_ble_eq_true rfl, Nat.le_of_ble_eq_true rfl⟩ ?_
  exact g_iret X hr dX6_weak_27 hf
