def f_X3_copyFrom_tf (w : St) : Option (Int32 × St) := if cpb 0 0 24 24 24 then some (0, sR (sG w 4 (va_cpy (w.2 104) (w.2 4) (0 : Int32).toNatClampNeg (0 : Int32).toNatClampNeg (24 : Int32).toNatClampNeg)) 23 (w.1 123)) else none
set_option maxRecDepth 100000 in
set_option maxHeartbeats 4000000 in
theorem c_X3_copyFrom_tf {l : Launch} {D : va_G} {cI : ClassId × ClassId} {A : Nat → Prop} {ad : Nat → Nat} {w : St} {o : Int32 × St} (hf : f_X3_copyFrom_tf w = some o) : CTv l D cI A yX3_copyFrom cX3_copyFrom 2 (none) rm_X3_copyFrom [.ref (ad 3), .ref (ad 14)] ((wC ad cI) w) ((wC ad cI) o.2)   := by
  refine CTv.of (by decide +kernel) rfl (Nat.le_of_ble_eq_true rfl) ?_
  intro p e s m args below meth c X hr
  have X : gX p s m args meth c cX3_copyFrom 2 RX3 D cI := X
  show G _ _ _ _ _ _ _ _ _ _ _ _ _ _ _ _ _ 0 [some (.ref (ad 3)), some (.ref (ad 14))] [] w
  unfold f_X3_copyFrom_tf at hf
  refine g_aload_n X (i := 1) dX3_copyFrom_0 rfl rfl ?_
  refine g_get X (q0 := 14) (v := .ref (ad 19)) 0 dX3_copyFrom_1 gC_X3 rfl rfl (by decide) fl_X3_9 rfl rfl ?_
  refine g_iconst X dX3_copyFrom_4 (v := 0) (by decide) ?_
  refine g_aload_n X (i := 0) dX3_copyFrom_5 rfl rfl ?_
  refine g_get X (q0 := 3) (v := .ref (ad 8)) 0 dX3_copyFrom_6 gC_X3 rfl rfl (by decide) fl_X3_9 rfl rfl ?_
  refine g_iconst X dX3_copyFrom_9 (v := 0) (by decide) ?_
  refine g_bipush X dX3_copyFrom_10 (v := 24) (by decide) ?_
  obtain ⟨hb1, hf⟩ := hfg hf
  refine g_copy X (q0 := 19) (q1 := 8) (f := w.2 104) (g := w.2 4) dX3_copyFrom_12 ml_X3_23 nat_cp st_cp ini_cp rfl rfl hb1.1 hb1.2.1 hb1.2.2.1 hb1.2.2.2.1 hb1.2.2.2.2 ⟨Nat.le_of_ble_eq_true rfl, Nat.le_of_ble_eq_true rfl⟩ (gwC_4 ad cI _ _) ?_
  refine g_aload_n X (i := 0) dX3_copyFrom_15 rfl rfl ?_
  refine g_aload_n X (i := 1) dX3_copyFrom_16 rfl rfl ?_
  refine g_get X (q0 := 14) (v := .int (w.1 123)) 1 dX3_copyFrom_17 gC_X3 rfl rfl (by decide) fl_X3_15 rfl rfl ?_
  refine g_put X (q0 := 3) 1 dX3_copyFrom_20 gC_X3 rfl rfl (by decide) fl_X3_15 rfl rfl rfl rfl (Nat.le_of_ble_eq_true rfl) (pwC_23 ad cI _ _) ?_
  exact g_vret X hr dX3_copyFrom_23 hf
def f_X3_copyFrom_row (w : St) : Option (Int32 × St) := if cpb 0 0 24 24 24 then some (0, sR (sG w 5 (va_cpy (w.2 105) (w.2 5) (0 : Int32).toNatClampNeg (0 : Int32).toNatClampNeg (24 : Int32).toNatClampNeg)) 24 (w.1 124)) else none
set_option maxRecDepth 100000 in
set_option maxHeartbeats 4000000 in
theorem c_X3_copyFrom_row {l : Launch} {D : va_G} {cI : ClassId × ClassId} {A : Nat → Prop} {ad : Nat → Nat} {w : St} {o : Int32 × St} (hf : f_X3_copyFrom_row w = some o) : CTv l D cI A yX3_copyFrom cX3_copyFrom 2 (none) rm_X3_copyFrom [.ref (ad 4), .ref (ad 15)] ((wC ad cI) w) ((wC ad cI) o.2)   := by
  refine CTv.of (by decide +kernel) rfl (Nat.le_of_ble_eq_true rfl) ?_
  intro p e s m args below meth c X hr
  have X : gX p s m args meth c cX3_copyFrom 2 RX3 D cI := X
  show G _ _ _ _ _ _ _ _ _ _ _ _ _ _ _ _ _ 0 [some (.ref (ad 4)), some (.ref (ad 15))] [] w
  unfold f_X3_copyFrom_row at hf
  refine g_aload_n X (i := 1) dX3_copyFrom_0 rfl rfl ?_
  refine g_get X (q0 := 15) (v := .ref (ad 20)) 0 dX3_copyFrom_1 gC_X3 rfl rfl (by decide) fl_X3_9 rfl rfl ?_
  refine g_iconst X dX3_copyFrom_4 (v := 0) (by decide) ?_
  refine g_aload_n X (i := 0) dX3_copyFrom_5 rfl rfl ?_
  refine g_get X (q0 := 4) (v := .ref (ad 9)) 0 dX3_copyFrom_6 gC_X3 rfl rfl (by decide) fl_X3_9 rfl rfl ?_
  refine g_iconst X dX3_copyFrom_9 (v := 0) (by decide) ?_
  refine g_bipush X dX3_copyFrom_10 (v := 24) (by decide) ?_
  obtain ⟨hb1, hf⟩ := hfg hf
  refine g_copy X (q0 := 20) (q1 := 9) (f := w.2 105) (g := w.2 5) dX3_copyFrom_12 ml_X3_23 nat_cp st_cp ini_cp rfl rfl hb1.1 hb1.2.1 hb1.2.2.1 hb1.2.2.2.1 hb1.2.2.2.2 ⟨Nat.le_of_ble_eq_true rfl, Nat.le_of_ble_eq_true rfl⟩ (gwC_5 ad cI _ _) ?_
  refine g_aload_n X (i := 0) dX3_copyFrom_15 rfl rfl ?_
  refine g_aload_n X (i := 1) dX3_copyFrom_16 rfl rfl ?_
  refine g_get X (q0 := 15) (v := .int (w.1 124)) 1 dX3_copyFrom_17 gC_X3 rfl rfl (by decide) fl_X3_15 rfl rfl ?_
  refine g_put X (q0 := 4) 1 dX3_copyFrom_20 gC_X3 rfl rfl (by decide) fl_X3_15 rfl rfl rfl rfl (Nat.le_of_ble_eq_true rfl) (pwC_24 ad cI _ _) ?_
  exact g_vret X hr dX3_copyFrom_23 hf
def f_X1_copyFrom (w : St) : Option (Int32 × St) := if cpb 0 0 72 72 72 then if cpb 0 0 4 4 4 then if cpb 0 0 4 4 4 then (f_X3_copyFrom_tf (sG (sG (sG (sR (sR w 13 (w.1 113)) 14 (w.1 114)) 1 (va_cpy (w.2 101) (w.2 1) (0 : Int32).toNatClampNeg (0 : Int32).toNatClampNeg (72 : Int32).toNatClampNeg)) 2 (va_cpy (w.2 102) (w.2 2) (0 : Int32).toNatClampNeg (0 : Int32).toNatClampNeg (4 : Int32).toNatClampNeg)) 3 (va_cpy (w.2 103) (w.2 3) (0 : Int32).toNatClampNeg (0 : Int32).toNatClampNeg (4 : Int32).toNatClampNeg))).bind fun o4 => some (0, o4.2) else none else none else none
set_option maxRecDepth 100000 in
set_option maxHeartbeats 4000000 in
theorem c_X1_copyFrom {l : Launch} {D : va_G} {cI : ClassId × ClassId} {A : Nat → Prop} {ad : Nat → Nat} {w : St} {o : Int32 × St} (hf : f_X1_copyFrom w = some o) : CTv l D cI A yX1_copyFrom cX1_copyFrom 2 (none) rm_X1_copyFrom [.ref (ad 1), .ref (ad 12)] ((wC ad cI) w) ((wC ad cI) o.2)   := by
  refine CTv.of (by decide +kernel) rfl (Nat.le_of_ble_eq_true rfl) ?_
  intro p e s m args below meth c X hr
  have X : gX p s m args meth c cX1_copyFrom 2 RX1 D cI := X
  show G _ _ _ _ _ _ _ _ _ _ _ _ _ _ _ _ _ 0 [some (.ref (ad 1)), some (.ref (ad 12))] [] w
  unfold f_X1_copyFrom at hf
  refine g_aload_n X (i := 0) dX1_copyFrom_0 rfl rfl ?_
  refine g_aload_n X (i := 1) dX1_copyFrom_1 rfl rfl ?_
  refine g_get X (q0 := 12) (v := .int (w.1 113)) 0 dX1_copyFrom_2 gC_X1 rfl rfl (by decide) fl_X1_34 rfl rfl ?_
  refine g_put X (q0 := 1) 0 dX1_copyFrom_5 gC_X1 rfl rfl (by decide) fl_X1_34 rfl rfl rfl rfl (Nat.le_of_ble_eq_true rfl) (pwC_13 ad cI _ _) ?_
  refine g_aload_n X (i := 0) dX1_copyFrom_8 rfl rfl ?_
  refine g_aload_n X (i := 1) dX1_copyFrom_9 rfl rfl ?_
  refine g_get X (q0 := 12) (v := .int (w.1 114)) 1 dX1_copyFrom_10 gC_X1 rfl rfl (by decide) fl_X1_65 rfl rfl ?_
  refine g_put X (q0 := 1) 1 dX1_copyFrom_13 gC_X1 rfl rfl (by decide) fl_X1_65 rfl rfl rfl rfl (Nat.le_of_ble_eq_true rfl) (pwC_14 ad cI _ _) ?_
  refine g_aload_n X (i := 1) dX1_copyFrom_16 rfl rfl ?_
  refine g_get X (q0 := 12) (v := .ref (ad 16)) 2 dX1_copyFrom_17 gC_X1 rfl rfl (by decide) fl_X1_9 rfl rfl ?_
  refine g_iconst X dX1_copyFrom_20 (v := 0) (by decide) ?_
  refine g_aload_n X (i := 0) dX1_copyFrom_21 rfl rfl ?_
  refine g_get X (q0 := 1) (v := .ref (ad 5)) 2 dX1_copyFrom_22 gC_X1 rfl rfl (by decide) fl_X1_9 rfl rfl ?_
  refine g_iconst X dX1_copyFrom_25 (v := 0) (by decide) ?_
  refine g_bipush X dX1_copyFrom_26 (v := 72) (by decide) ?_
  obtain ⟨hb1, hf⟩ := hfg hf
  refine g_copy X (q0 := 16) (q1 := 5) (f := w.2 101) (g := w.2 1) dX1_copyFrom_28 ml_X1_88 nat_cp st_cp ini_cp rfl rfl hb1.1 hb1.2.1 hb1.2.2.1 hb1.2.2.2.1 hb1.2.2.2.2 ⟨Nat.le_of_ble_eq_true rfl, Nat.le_of_ble_eq_true rfl⟩ (gwC_1 ad cI _ _) ?_
  refine g_aload_n X (i := 1) dX1_copyFrom_31 rfl rfl ?_
  refine g_get X (q0 := 12) (v := .ref (ad 17)) 3 dX1_copyFrom_32 gC_X1 rfl rfl (by decide) fl_X1_15 rfl rfl ?_
  refine g_iconst X dX1_copyFrom_35 (v := 0) (by decide) ?_
  refine g_aload_n X (i := 0) dX1_copyFrom_36 rfl rfl ?_
  refine g_get X (q0 := 1) (v := .ref (ad 6)) 3 dX1_copyFrom_37 gC_X1 rfl rfl (by decide) fl_X1_15 rfl rfl ?_
  refine g_iconst X dX1_copyFrom_40 (v := 0) (by decide) ?_
  refine g_iconst X dX1_copyFrom_41 (v := 4) (by decide) ?_
  obtain ⟨hb2, hf⟩ := hfg hf
  refine g_copy X (q0 := 17) (q1 := 6) (f := w.2 102) (g := w.2 2) dX1_copyFrom_42 ml_X1_88 nat_cp st_cp ini_cp rfl rfl hb2.1 hb2.2.1 hb2.2.2.1 hb2.2.2.2.1 hb2.2.2.2.2 ⟨Nat.le_of_ble_eq_true rfl, Nat.le_of_ble_eq_true rfl⟩ (gwC_2 ad cI _ _) ?_
  refine g_aload_n X (i := 1) dX1_copyFrom_45 rfl rfl ?_
  refine g_get X (q0 := 12) (v := .ref (ad 18)) 4 dX1_copyFrom_46 gC_X1 rfl rfl (by decide) fl_X1_18 rfl rfl ?_
  refine g_iconst X dX1_copyFrom_49 (v := 0) (by decide) ?_
  refine g_aload_n X (i := 0) dX1_copyFrom_50 rfl rfl ?_
  refine g_get X (q0 := 1) (v := .ref (ad 7)) 4 dX1_copyFrom_51 gC_X1 rfl rfl (by decide) fl_X1_18 rfl rfl ?_
  refine g_iconst X dX1_copyFrom_54 (v := 0) (by decide) ?_
  refine g_iconst X dX1_copyFrom_55 (v := 4) (by decide) ?_
  obtain ⟨hb3, hf⟩ := hfg hf
  refine g_copy X (q0 := 18) (q1 := 7) (f := w.2 103) (g := w.2 3) dX1_copyFrom_56 ml_X1_88 nat_cp st_cp ini_cp rfl rfl hb3.1 hb3.2.1 hb3.2.2.1 hb3.2.2.2.1 hb3.2.2.2.2 ⟨Nat.le_of_ble_eq_true rfl, Nat.le_of_ble_eq_true rfl⟩ (gwC_3 ad cI _ _) ?_
  refine g_aload_n X (i := 0) dX1_copyFrom_59 rfl rfl ?_
  refine g_get X (q0 := 1) (v := .ref (ad 3)) 5 dX1_copyFrom_60 gC_X1 rfl rfl (by decide) fl_X1_24 rfl rfl ?_
  refine g_aload_n X (i := 1) dX1_copyFrom_63 rfl rfl ?_
  refine g_get X (q0 := 12) (v := .ref (ad 14)) 5 dX1_copyFrom_64 gC_X1 rfl rfl (by decide) fl_X1_24 rfl rfl ?_
  obtain ⟨o4, h5, hf⟩ := hfb hf
  refine g_Vv X (q0 := 3) (As := [.ref (ad 14)]) (rest := []) (c_X3_copyFrom_tf h5) dX1_copyFrom_67 ml_X1_94 yv_X3_copyFrom rfl rfl rfl rfl ⟨Nat.le_of_ble_eq_true rfl, Nat.le_of_ble_eq_true rfl⟩ ⟨rfl, rfl⟩ (Nat.le_of_ble_eq_true rfl) ⟨Nat.le_of_ble_eq_true rfl, Nat.le_of_ble_eq_true rfl⟩ ?_
  exact g_vret X hr dX1_copyFrom_70 hf
def f_X4_copyFrom (w : St) : Option (Int32 × St) := (f_X3_copyFrom_row (sR (sR (sR w 15 (w.1 115)) 16 (w.1 116)) 17 (w.1 117))).bind fun o1 => some (0, sR (sR (sR (sR (sR o1.2 18 (o1.2.1 118)) 19 (o1.2.1 119)) 20 (o1.2.1 120)) 21 (o1.2.1 121)) 22 (o1.2.1 122))
set_option maxRecDepth 100000 in
set_option maxHeartbeats 4000000 in
theorem c_X4_copyFrom {l : Launch} {D : va_G} {cI : ClassId × ClassId} {A : Nat → Prop} {ad : Nat → Nat} {w : St} {o : Int32 × St} (hf : f_X4_copyFrom w = some o) : CTv l D cI A yX4_copyFrom cX4_copyFrom 2 (none) rm_X4_copyFrom [.ref (ad 2), .ref (ad 13)] ((wC ad cI) w) ((wC ad cI) o.2)   := by
  refine CTv.of (by decide +kernel) rfl (Nat.le_of_ble_eq_true rfl) ?_
  intro p e s m args below meth c X hr
  have X : gX p s m args meth c cX4_copyFrom 2 RX4 D cI := X
  show G _ _ _ _ _ _ _ _ _ _ _ _ _ _ _ _ _ 0 [some (.ref (ad 2)), some (.ref (ad 13))] [] w
  unfold f_X4_copyFrom at hf
  refine g_aload_n X (i := 0) dX4_copyFrom_0 rfl rfl ?_
  refine g_aload_n X (i := 1) dX4_copyFrom_1 rfl rfl ?_
  refine g_get X (q0 := 13) (v := .int (w.1 115)) 0 dX4_copyFrom_2 gC_X4 rfl rfl (by decide) fl_X4_9 rfl rfl ?_
  refine g_put X (q0 := 2) 0 dX4_copyFrom_5 gC_X4 rfl rfl (by decide) fl_X4_9 rfl rfl rfl rfl (Nat.le_of_ble_eq_true rfl) (pwC_15 ad cI _ _) ?_
  refine g_aload_n X (i := 0) dX4_copyFrom_8 rfl rfl ?_
  refine g_aload_n X (i := 1) dX4_copyFrom_9 rfl rfl ?_
  refine g_get X (q0 := 13) (v := .int (w.1 116)) 1 dX4_copyFrom_10 gC_X4 rfl rfl (by decide) fl_X4_33 rfl rfl ?_
  refine g_put X (q0 := 2) 1 dX4_copyFrom_13 gC_X4 rfl rfl (by decide) fl_X4_33 rfl rfl rfl rfl (Nat.le_of_ble_eq_true rfl) (pwC_16 ad cI _ _) ?_
  refine g_aload_n X (i := 0) dX4_copyFrom_16 rfl rfl ?_
  refine g_aload_n X (i := 1) dX4_copyFrom_17 rfl rfl ?_
  refine g_get X (q0 := 13) (v := .int (w.1 117)) 2 dX4_copyFrom_18 gC_X4 rfl rfl (by decide) fl_X4_22 rfl rfl ?_
  refine g_put X (q0 := 2) 2 dX4_copyFrom_21 gC_X4 rfl rfl (by decide) fl_X4_22 rfl rfl rfl rfl (Nat.le_of_ble_eq_true rfl) (pwC_17 ad cI _ _) ?_
  refine g_aload_n X (i := 0) dX4_copyFrom_24 rfl rfl ?_
  refine g_get X (q0 := 2) (v := .ref (ad 4)) 3 dX4_copyFrom_25 gC_X4 rfl rfl (by decide) fl_X4_18 rfl rfl ?_
  refine g_aload_n X (i := 1) dX4_copyFrom_28 rfl rfl ?_
  refine g_get X (q0 := 13) (v := .ref (ad 15)) 3 dX4_copyFrom_29 gC_X4 rfl rfl (by decide) fl_X4_18 rfl rfl ?_
  obtain ⟨o1, h2, hf⟩ := hfb hf
  refine g_Vv X (q0 := 4) (As := [.ref (ad 15)]) (rest := []) (c_X3_copyFrom_row h2) dX4_copyFrom_32 ml_X4_113 yv_X3_copyFrom rfl rfl rfl rfl ⟨Nat.le_of_ble_eq_true rfl, Nat.le_of_ble_eq_true rfl⟩ ⟨rfl, rfl⟩ (Nat.le_of_ble_eq_true rfl) ⟨Nat.le_of_ble_eq_true rfl, Nat.le_of_ble_eq_true rfl⟩ ?_
  refine g_aload_n X (i := 0) dX4_copyFrom_35 rfl rfl ?_
  refine g_aload_n X (i := 1) dX4_copyFrom_36 rfl rfl ?_
  refine g_get X (q0 := 13) (v := .int (o1.2.1 118)) 4 dX4_copyFrom_37 gC_X4 rfl rfl (by decide) fl_X4_49 rfl rfl ?_
  refine g_put X (q0 := 2) 4 dX4_copyFrom_40 gC_X4 rfl rfl (by decide) fl_X4_49 rfl rfl rfl rfl (Nat.le_of_ble_eq_true rfl) (pwC_18 ad cI _ _) ?_
  refine g_aload_n X (i := 0) dX4_copyFrom_43 rfl rfl ?_
  refine g_aload_n X (i := 1) dX4_copyFrom_44 rfl rfl ?_
  refine g_get X (q0 := 13) (v := .int (o1.2.1 119)) 5 dX4_copyFrom_45 gC_X4 rfl rfl (by decide) fl_X4_52 rfl rfl ?_
  refine g_put X (q0 := 2) 5 dX4_copyFrom_48 gC_X4 rfl rfl (by decide) fl_X4_52 rfl rfl rfl rfl (Nat.le_of_ble_eq_true rfl) (pwC_19 ad cI _ _) ?_
  refine g_aload_n X (i := 0) dX4_copyFrom_51 rfl rfl ?_
  refine g_aload_n X (i := 1) dX4_copyFrom_52 rfl rfl ?_
  refine g_get X (q0 := 13) (v := .int (o1.2.1 120)) 6 dX4_copyFrom_53 gC_X4 rfl rfl (by decide) fl_X4_55 rfl rfl ?_
  refine g_put X (q0 := 2) 6 dX4_copyFrom_56 gC_X4 rfl rfl (by decide) fl_X4_55 rfl rfl rfl rfl (Nat.le_of_ble_eq_true rfl) (pwC_20 ad cI _ _) ?_
  refine g_aload_n X (i := 0) dX4_copyFrom_59 rfl rfl ?_
  refine g_aload_n X (i := 1) dX4_copyFrom_60 rfl rfl ?_
  refine g_get X (q0 := 13) (v := .int (o1.2.1 121)) 7 dX4_copyFrom_61 gC_X4 rfl rfl (by decide) fl_X4_58 rfl rfl ?_
  refine g_put X (q0 := 2) 7 dX4_copyFrom_64 gC_X4 rfl rfl (by decide) fl_X4_58 rfl rfl rfl rfl (Nat.le_of_ble_eq_true rfl) (pwC_21 ad cI _ _) ?_
  refine g_aload_n X (i := 0) dX4_copyFrom_67 rfl rfl ?_
  refine g_aload_n X (i := 1) dX4_copyFrom_68 rfl rfl ?_
  refine g_get X (q0 := 13) (v := .int (o1.2.1 122)) 8 dX4_copyFrom_69 gC_X4 rfl rfl (by decide) fl_X4_110 rfl rfl ?_
  refine g_put X (q0 := 2) 8 dX4_copyFrom_72 gC_X4 rfl rfl (by decide) fl_X4_110 rfl rfl rfl rfl (Nat.le_of_ble_eq_true rfl) (pwC_22 ad cI _ _) ?_
  exact g_vret X hr dX4_copyFrom_75 hf
def f_X5_copyFrom (w : St) : Option (Int32 × St) := (f_X1_copyFrom w).bind fun o1 => (f_X4_copyFrom o1.2).bind fun o3 => if cpb 0 0 24 24 24 then some (0, sR (sR (sR (sG o3.2 6 (va_cpy (o3.2.2 106) (o3.2.2 6) (0 : Int32).toNatClampNeg (0 : Int32).toNatClampNeg (24 : Int32).toNatClampNeg)) 10 (o3.2.1 110)) 11 (o3.2.1 111)) 12 (o3.2.1 112)) else none
set_option maxRecDepth 100000 in
set_option maxHeartbeats 4000000 in
theorem c_X5_copyFrom {l : Launch} {D : va_G} {cI : ClassId × ClassId} {A : Nat → Prop} {ad : Nat → Nat} {w : St} {o : Int32 × St} (hf : f_X5_copyFrom w = some o) : CTv l D cI A yX5_copyFrom cX5_copyFrom 2 (none) rm_X5_copyFrom [.ref (ad 0), .ref (ad 11)] ((wC ad cI) w) ((wC ad cI) o.2)   := by
  refine CTv.of (by decide +kernel) rfl (Nat.le_of_ble_eq_true rfl) ?_
  intro p e s m args below meth c X hr
  have X : gX p s m args meth c cX5_copyFrom 2 RX5 D cI := X
  show G _ _ _ _ _ _ _ _ _ _ _ _ _ _ _ _ _ 0 [some (.ref (ad 0)), some (.ref (ad 11))] [] w
  unfold f_X5_copyFrom at hf
  refine g_aload_n X (i := 0) dX5_copyFrom_0 rfl rfl ?_
  refine g_get X (q0 := 0) (v := .ref (ad 1)) 0 dX5_copyFrom_1 gC_X5 rfl rfl (by decide) fl_X5_12 rfl rfl ?_
  refine g_aload_n X (i := 1) dX5_copyFrom_4 rfl rfl ?_
  refine g_get X (q0 := 11) (v := .ref (ad 12)) 0 dX5_copyFrom_5 gC_X5 rfl rfl (by decide) fl_X5_12 rfl rfl ?_
  obtain ⟨o1, h2, hf⟩ := hfb hf
  refine g_Vv X (q0 := 1) (As := [.ref (ad 12)]) (rest := []) (c_X1_copyFrom h2) dX5_copyFrom_8 ml_X5_182 yv_X1_copyFrom rfl rfl rfl rfl ⟨Nat.le_of_ble_eq_true rfl, Nat.le_of_ble_eq_true rfl⟩ ⟨rfl, rfl⟩ (Nat.le_of_ble_eq_true rfl) ⟨Nat.le_of_ble_eq_true rfl, Nat.le_of_ble_eq_true rfl⟩ ?_
  refine g_aload_n X (i := 0) dX5_copyFrom_11 rfl rfl ?_
  refine g_get X (q0 := 0) (v := .ref (ad 2)) 1 dX5_copyFrom_12 gC_X5 rfl rfl (by decide) fl_X5_21 rfl rfl ?_
  refine g_aload_n X (i := 1) dX5_copyFrom_15 rfl rfl ?_
  refine g_get X (q0 := 11) (v := .ref (ad 13)) 1 dX5_copyFrom_16 gC_X5 rfl rfl (by decide) fl_X5_21 rfl rfl ?_
  obtain ⟨o3, h4, hf⟩ := hfb hf
  refine g_Vv X (q0 := 2) (As := [.ref (ad 13)]) (rest := []) (c_X4_copyFrom h4) dX5_copyFrom_19 ml_X5_185 yv_X4_copyFrom rfl rfl rfl rfl ⟨Nat.le_of_ble_eq_true rfl, Nat.le_of_ble_eq_true rfl⟩ ⟨rfl, rfl⟩ (Nat.le_of_ble_eq_true rfl) ⟨Nat.le_of_ble_eq_true rfl, Nat.le_of_ble_eq_true rfl⟩ ?_
  refine g_aload_n X (i := 1) dX5_copyFrom_22 rfl rfl ?_
  refine g_get X (q0 := 11) (v := .ref (ad 21)) 2 dX5_copyFrom_23 gC_X5 rfl rfl (by decide) fl_X5_25 rfl rfl ?_
  refine g_iconst X dX5_copyFrom_26 (v := 0) (by decide) ?_
  refine g_aload_n X (i := 0) dX5_copyFrom_27 rfl rfl ?_
  refine g_get X (q0 := 0) (v := .ref (ad 10)) 2 dX5_copyFrom_28 gC_X5 rfl rfl (by decide) fl_X5_25 rfl rfl ?_
  refine g_iconst X dX5_copyFrom_31 (v := 0) (by decide) ?_
  refine g_bipush X dX5_copyFrom_32 (v := 24) (by decide) ?_
  obtain ⟨hb5, hf⟩ := hfg hf
  refine g_copy X (q0 := 21) (q1 := 10) (f := o3.2.2 106) (g := o3.2.2 6) dX5_copyFrom_34 ml_X5_188 nat_cp st_cp ini_cp rfl rfl hb5.1 hb5.2.1 hb5.2.2.1 hb5.2.2.2.1 hb5.2.2.2.2 ⟨Nat.le_of_ble_eq_true rfl, Nat.le_of_ble_eq_true rfl⟩ (gwC_6 ad cI _ _) ?_
  refine g_aload_n X (i := 0) dX5_copyFrom_37 rfl rfl ?_
  refine g_aload_n X (i := 1) dX5_copyFrom_38 rfl rfl ?_
  refine g_get X (q0 := 11) (v := .int (o3.2.1 110)) 3 dX5_copyFrom_39 gC_X5 rfl rfl (by decide) fl_X5_29 rfl rfl ?_
  refine g_put X (q0 := 0) 3 dX5_copyFrom_42 gC_X5 rfl rfl (by decide) fl_X5_29 rfl rfl rfl rfl (Nat.le_of_ble_eq_true rfl) (pwC_10 ad cI _ _) ?_
  refine g_aload_n X (i := 0) dX5_copyFrom_45 rfl rfl ?_
  refine g_aload_n X (i := 1) dX5_copyFrom_46 rfl rfl ?_
  refine g_get X (q0 := 11) (v := .int (o3.2.1 111)) 4 dX5_copyFrom_47 gC_X5 rfl rfl (by decide) fl_X5_41 rfl rfl ?_
  refine g_put X (q0 := 0) 4 dX5_copyFrom_50 gC_X5 rfl rfl (by decide) fl_X5_41 rfl rfl rfl rfl (Nat.le_of_ble_eq_true rfl) (pwC_11 ad cI _ _) ?_
  refine g_aload_n X (i := 0) dX5_copyFrom_53 rfl rfl ?_
  refine g_aload_n X (i := 1) dX5_copyFrom_54 rfl rfl ?_
  refine g_get X (q0 := 11) (v := .int (o3.2.1 112)) 5 dX5_copyFrom_55 gC_X5 rfl rfl (by decide) fl_X5_113 rfl rfl ?_
  refine g_put X (q0 := 0) 5 dX5_copyFrom_58 gC_X5 rfl rfl (by decide) fl_X5_113 rfl rfl rfl rfl (Nat.le_of_ble_eq_true rfl) (pwC_12 ad cI _ _) ?_
  exact g_vret X hr dX5_copyFrom_61 hf
