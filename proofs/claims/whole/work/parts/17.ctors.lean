def F_X3 (cI : ClassId × ClassId) (h0 : Nat) (qs : Nat → Nat) : va_W := [(h0, .inr (3, [.ref (qs 0), .int 0])), ((qs 0), .inl (cI.1, 24, .inl (fun _ => 0)))]
abbrev rm_X3_init : Room := { frames := 1, cells := 1, slots := 24, locals := 20 }
theorem yi_X3 : yI yX3_init cX3_init 1 := ⟨⟨tb1 36 rfl, tb1 4 rfl, tb1 37 rfl⟩, rfl, by decide +kernel, by decide +kernel, by decide +kernel⟩
theorem dX3_init_0 : decode cX3_init 0 = .ok (.aload_n 0, 1) := by decide +kernel
theorem dX3_init_1 : decode cX3_init 1 = .ok (.invokespecial 3, 3) := by decide +kernel
theorem dX3_init_4 : decode cX3_init 4 = .ok (.aload_n 0, 1) := by decide +kernel
theorem dX3_init_5 : decode cX3_init 5 = .ok (.bipush 24, 2) := by decide +kernel
theorem dX3_init_7 : decode cX3_init 7 = .ok (.newarray .int, 2) := by decide +kernel
theorem dX3_init_9 : decode cX3_init 9 = .ok (.putfield 9, 3) := by decide +kernel
theorem dX3_init_12 : decode cX3_init 12 = .ok (.return_, 1) := by decide +kernel
set_option maxRecDepth 100000 in
set_option maxHeartbeats 4000000 in
theorem c_X3_init {l : Launch} {D : va_G} {cI : ClassId × ClassId} {h0 : Nat} : CTn l D cI yX3_init cX3_init 1 rm_X3_init 1 24 h0 (.inr (3, [.null, .int 0])) (F_X3 cI h0) := by
  refine CTn.of (by decide +kernel) rfl (Nat.le_of_ble_eq_true rfl) ?_
  intro p e s m args below meth c A X hr hin hA
  have X : gX p s m args meth c cX3_init 1 RX3 D cI := X
  show G _ _ _ _ _ _ _ _ _ _ _ _ _ _ _ _ _ 0 [some (.ref h0)] [] ([(h0, .inr (3, [.null, .int 0]))] : va_W)
  refine g_aload_n X (i := 0) dX3_init_0 rfl rfl ?_
  refine g_objI X dX3_init_1 ml_X3_3 ⟨Nat.le_of_ble_eq_true rfl, Nat.le_of_ble_eq_true rfl⟩ ?_
  refine g_aload_n X (i := 0) dX3_init_4 rfl rfl ?_
  refine g_bipush X dX3_init_5 (v := 24) (by decide) ?_
  refine g_newa X hA 24 dX3_init_7 (by decide) (by decide) (Nat.le_of_ble_eq_true rfl) ⟨Nat.le_of_ble_eq_true rfl, Nat.le_of_ble_eq_true rfl⟩ (fun q1 => ?_)
  refine g_putF X hin (q0 := 0) (w' := [(h0, .inr (3, [.ref q1, .int 0])), (q1, .inl (cI.1, 24, .inl (fun _ => 0)))]) 0 dX3_init_9 gC_X3 rfl rfl (by decide) fl_X3_9 rfl rfl rfl rfl rfl (Nat.le_of_ble_eq_true rfl) rfl ?_
  exact g_nret X hr (fun k => ([q1] : List Nat).getD k 0) dX3_init_12 rfl
def F_X1 (cI : ClassId × ClassId) (h0 : Nat) (qs : Nat → Nat) : va_W := [(h0, .inr (1, [.int 0, .int 0, .ref (qs 0), .ref (qs 1), .ref (qs 2), .ref (qs 3)])), ((qs 0), .inl (cI.1, 72, .inl (fun _ => (-1)))), ((qs 1), .inl (cI.1, 4, .inl (fun _ => (-1)))), ((qs 2), .inl (cI.1, 4, .inl (fun _ => (-1)))), ((qs 3), .inr (3, [.ref (qs 4), .int 0])), ((qs 4), .inl (cI.1, 24, .inl (fun _ => 0)))]
abbrev rm_X1_init : Room := { frames := 2, cells := 5, slots := 106, locals := 40 }
theorem yi_X1 : yI yX1_init cX1_init 1 := ⟨⟨tb1 30 rfl, tb1 3 rfl, tb1 31 rfl⟩, rfl, by decide +kernel, by decide +kernel, by decide +kernel⟩
theorem dX1_init_0 : decode cX1_init 0 = .ok (.aload_n 0, 1) := by decide +kernel
theorem dX1_init_1 : decode cX1_init 1 = .ok (.invokespecial 3, 3) := by decide +kernel
theorem dX1_init_4 : decode cX1_init 4 = .ok (.aload_n 0, 1) := by decide +kernel
theorem dX1_init_5 : decode cX1_init 5 = .ok (.bipush 72, 2) := by decide +kernel
theorem dX1_init_7 : decode cX1_init 7 = .ok (.newarray .int, 2) := by decide +kernel
theorem dX1_init_9 : decode cX1_init 9 = .ok (.putfield 9, 3) := by decide +kernel
theorem dX1_init_12 : decode cX1_init 12 = .ok (.aload_n 0, 1) := by decide +kernel
theorem dX1_init_13 : decode cX1_init 13 = .ok (.iconst 4, 1) := by decide +kernel
theorem dX1_init_14 : decode cX1_init 14 = .ok (.newarray .int, 2) := by decide +kernel
theorem dX1_init_16 : decode cX1_init 16 = .ok (.putfield 15, 3) := by decide +kernel
theorem dX1_init_19 : decode cX1_init 19 = .ok (.aload_n 0, 1) := by decide +kernel
theorem dX1_init_20 : decode cX1_init 20 = .ok (.iconst 4, 1) := by decide +kernel
theorem dX1_init_21 : decode cX1_init 21 = .ok (.newarray .int, 2) := by decide +kernel
theorem dX1_init_23 : decode cX1_init 23 = .ok (.putfield 18, 3) := by decide +kernel
theorem dX1_init_26 : decode cX1_init 26 = .ok (.aload_n 0, 1) := by decide +kernel
theorem dX1_init_27 : decode cX1_init 27 = .ok (.new 21, 3) := by decide +kernel
theorem dX1_init_30 : decode cX1_init 30 = .ok (.dup, 1) := by decide +kernel
theorem dX1_init_31 : decode cX1_init 31 = .ok (.invokespecial 23, 3) := by decide +kernel
theorem dX1_init_34 : decode cX1_init 34 = .ok (.putfield 24, 3) := by decide +kernel
theorem dX1_init_37 : decode cX1_init 37 = .ok (.aload_n 0, 1) := by decide +kernel
theorem dX1_init_38 : decode cX1_init 38 = .ok (.getfield 9, 3) := by decide +kernel
theorem dX1_init_41 : decode cX1_init 41 = .ok (.iconst (-1), 1) := by decide +kernel
theorem dX1_init_42 : decode cX1_init 42 = .ok (.invokestatic 28, 3) := by decide +kernel
theorem dX1_init_45 : decode cX1_init 45 = .ok (.aload_n 0, 1) := by decide +kernel
theorem dX1_init_46 : decode cX1_init 46 = .ok (.getfield 15, 3) := by decide +kernel
theorem dX1_init_49 : decode cX1_init 49 = .ok (.iconst (-1), 1) := by decide +kernel
theorem dX1_init_50 : decode cX1_init 50 = .ok (.invokestatic 28, 3) := by decide +kernel
theorem dX1_init_53 : decode cX1_init 53 = .ok (.aload_n 0, 1) := by decide +kernel
theorem dX1_init_54 : decode cX1_init 54 = .ok (.getfield 18, 3) := by decide +kernel
theorem dX1_init_57 : decode cX1_init 57 = .ok (.iconst (-1), 1) := by decide +kernel
theorem dX1_init_58 : decode cX1_init 58 = .ok (.invokestatic 28, 3) := by decide +kernel
theorem dX1_init_61 : decode cX1_init 61 = .ok (.return_, 1) := by decide +kernel
set_option maxRecDepth 100000 in
set_option maxHeartbeats 4000000 in
theorem c_X1_init {l : Launch} {D : va_G} {cI : ClassId × ClassId} {h0 : Nat} : CTn l D cI yX1_init cX1_init 1 rm_X1_init 5 106 h0 (.inr (1, [.int 0, .int 0, .null, .null, .null, .null])) (F_X1 cI h0) := by
  refine CTn.of (by decide +kernel) rfl (Nat.le_of_ble_eq_true rfl) ?_
  intro p e s m args below meth c A X hr hin hA
  have X : gX p s m args meth c cX1_init 1 RX1 D cI := X
  show G _ _ _ _ _ _ _ _ _ _ _ _ _ _ _ _ _ 0 [some (.ref h0)] [] ([(h0, .inr (1, [.int 0, .int 0, .null, .null, .null, .null]))] : va_W)
  refine g_aload_n X (i := 0) dX1_init_0 rfl rfl ?_
  refine g_objI X dX1_init_1 ml_X1_3 ⟨Nat.le_of_ble_eq_true rfl, Nat.le_of_ble_eq_true rfl⟩ ?_
  refine g_aload_n X (i := 0) dX1_init_4 rfl rfl ?_
  refine g_bipush X dX1_init_5 (v := 72) (by decide) ?_
  refine g_newa X hA 72 dX1_init_7 (by decide) (by decide) (Nat.le_of_ble_eq_true rfl) ⟨Nat.le_of_ble_eq_true rfl, Nat.le_of_ble_eq_true rfl⟩ (fun q1 => ?_)
  refine g_putF X hin (q0 := 0) (w' := [(h0, .inr (1, [.int 0, .int 0, .ref q1, .null, .null, .null])), (q1, .inl (cI.1, 72, .inl (fun _ => 0)))]) 2 dX1_init_9 gC_X1 rfl rfl (by decide) fl_X1_9 rfl rfl rfl rfl rfl (Nat.le_of_ble_eq_true rfl) rfl ?_
  refine g_aload_n X (i := 0) dX1_init_12 rfl rfl ?_
  refine g_iconst X dX1_init_13 (v := 4) (by decide) ?_
  refine g_newa X hA 4 dX1_init_14 (by decide) (by decide) (Nat.le_of_ble_eq_true rfl) ⟨Nat.le_of_ble_eq_true rfl, Nat.le_of_ble_eq_true rfl⟩ (fun q2 => ?_)
  refine g_putF X hin (q0 := 0) (w' := [(h0, .inr (1, [.int 0, .int 0, .ref q1, .ref q2, .null, .null])), (q1, .inl (cI.1, 72, .inl (fun _ => 0))), (q2, .inl (cI.1, 4, .inl (fun _ => 0)))]) 3 dX1_init_16 gC_X1 rfl rfl (by decide) fl_X1_15 rfl rfl rfl rfl rfl (Nat.le_of_ble_eq_true rfl) rfl ?_
  refine g_aload_n X (i := 0) dX1_init_19 rfl rfl ?_
  refine g_iconst X dX1_init_20 (v := 4) (by decide) ?_
  refine g_newa X hA 4 dX1_init_21 (by decide) (by decide) (Nat.le_of_ble_eq_true rfl) ⟨Nat.le_of_ble_eq_true rfl, Nat.le_of_ble_eq_true rfl⟩ (fun q3 => ?_)
  refine g_putF X hin (q0 := 0) (w' := [(h0, .inr (1, [.int 0, .int 0, .ref q1, .ref q2, .ref q3, .null])), (q1, .inl (cI.1, 72, .inl (fun _ => 0))), (q2, .inl (cI.1, 4, .inl (fun _ => 0))), (q3, .inl (cI.1, 4, .inl (fun _ => 0)))]) 4 dX1_init_23 gC_X1 rfl rfl (by decide) fl_X1_18 rfl rfl rfl rfl rfl (Nat.le_of_ble_eq_true rfl) rfl ?_
  refine g_aload_n X (i := 0) dX1_init_26 rfl rfl ?_
  refine g_new X hA (C := RX3) (T := TX3) (ty0 := tyX3) (N := 2) (ci := 3) (fs := [.null, .int 0]) dX1_init_27 gC_X3 (tb1 33 rfl) (tb1 34 rfl) (tb1 4 rfl) rfl (fun j hj => by rcases (show j = 0 ∨ j = 1 by omega) with rfl | rfl <;> rfl) ⟨Nat.le_of_ble_eq_true rfl, Nat.le_of_ble_eq_true rfl⟩ (fun q4 => ?_)
  refine g_dup X dX1_init_30 rfl ?_
  refine g_ctorN X hA (c_X3_init (h0 := q4)) dX1_init_31 ml_X1_23 yi_X3 ⟨Nat.le_of_ble_eq_true rfl, Nat.le_of_ble_eq_true rfl⟩ ⟨rfl, rfl⟩ (Nat.le_of_ble_eq_true rfl) ⟨Nat.le_of_ble_eq_true rfl, Nat.le_of_ble_eq_true rfl⟩ (fun qs5 => ?_)
  refine g_putF X hin (q0 := 0) (w' := [(h0, .inr (1, [.int 0, .int 0, .ref q1, .ref q2, .ref q3, .ref q4])), (q1, .inl (cI.1, 72, .inl (fun _ => 0))), (q2, .inl (cI.1, 4, .inl (fun _ => 0))), (q3, .inl (cI.1, 4, .inl (fun _ => 0))), (q4, .inr (3, [.ref (qs5 0), .int 0])), ((qs5 0), .inl (cI.1, 24, .inl (fun _ => 0)))]) 5 dX1_init_34 gC_X1 rfl rfl (by decide) fl_X1_24 rfl rfl rfl rfl rfl (Nat.le_of_ble_eq_true rfl) rfl ?_
  refine g_aload_n X (i := 0) dX1_init_37 rfl rfl ?_
  refine g_get X (wf := wI) (q0 := 0) (v := .ref q1) 2 dX1_init_38 gC_X1 rfl rfl (by decide) fl_X1_9 rfl rfl ?_
  refine g_iconst X dX1_init_41 (v := (-1)) (by decide) ?_
  refine g_Sv X (wf := wI) (w1 := [(h0, .inr (1, [.int 0, .int 0, .ref q1, .ref q2, .ref q3, .ref q4])), (q1, .inl (cI.1, 72, .inl (fun _ => (-1)))), (q2, .inl (cI.1, 4, .inl (fun _ => 0))), (q3, .inl (cI.1, 4, .inl (fun _ => 0))), (q4, .inr (3, [.ref (qs5 0), .int 0])), ((qs5 0), .inl (cI.1, 24, .inl (fun _ => 0)))]) (As := [.ref q1, .int (-1)]) (rest := []) (lift_set (k := 1) rfl (c_fill (n := 72) (by decide))) dX1_init_42 ml_X1_28 yv_J7_fill_53178 rfl rfl ⟨Nat.le_of_ble_eq_true rfl, Nat.le_of_ble_eq_true rfl⟩ ⟨rfl, rfl⟩ (Nat.le_of_ble_eq_true rfl) ⟨Nat.le_of_ble_eq_true rfl, Nat.le_of_ble_eq_true rfl⟩ ?_
  refine g_aload_n X (i := 0) dX1_init_45 rfl rfl ?_
  refine g_get X (wf := wI) (q0 := 0) (v := .ref q2) 3 dX1_init_46 gC_X1 rfl rfl (by decide) fl_X1_15 rfl rfl ?_
  refine g_iconst X dX1_init_49 (v := (-1)) (by decide) ?_
  refine g_Sv X (wf := wI) (w1 := [(h0, .inr (1, [.int 0, .int 0, .ref q1, .ref q2, .ref q3, .ref q4])), (q1, .inl (cI.1, 72, .inl (fun _ => (-1)))), (q2, .inl (cI.1, 4, .inl (fun _ => (-1)))), (q3, .inl (cI.1, 4, .inl (fun _ => 0))), (q4, .inr (3, [.ref (qs5 0), .int 0])), ((qs5 0), .inl (cI.1, 24, .inl (fun _ => 0)))]) (As := [.ref q2, .int (-1)]) (rest := []) (lift_set (k := 2) rfl (c_fill (n := 4) (by decide))) dX1_init_50 ml_X1_28 yv_J7_fill_53178 rfl rfl ⟨Nat.le_of_ble_eq_true rfl, Nat.le_of_ble_eq_true rfl⟩ ⟨rfl, rfl⟩ (Nat.le_of_ble_eq_true rfl) ⟨Nat.le_of_ble_eq_true rfl, Nat.le_of_ble_eq_true rfl⟩ ?_
  refine g_aload_n X (i := 0) dX1_init_53 rfl rfl ?_
  refine g_get X (wf := wI) (q0 := 0) (v := .ref q3) 4 dX1_init_54 gC_X1 rfl rfl (by decide) fl_X1_18 rfl rfl ?_
  refine g_iconst X dX1_init_57 (v := (-1)) (by decide) ?_
  refine g_Sv X (wf := wI) (w1 := [(h0, .inr (1, [.int 0, .int 0, .ref q1, .ref q2, .ref q3, .ref q4])), (q1, .inl (cI.1, 72, .inl (fun _ => (-1)))), (q2, .inl (cI.1, 4, .inl (fun _ => (-1)))), (q3, .inl (cI.1, 4, .inl (fun _ => (-1)))), (q4, .inr (3, [.ref (qs5 0), .int 0])), ((qs5 0), .inl (cI.1, 24, .inl (fun _ => 0)))]) (As := [.ref q3, .int (-1)]) (rest := []) (lift_set (k := 3) rfl (c_fill (n := 4) (by decide))) dX1_init_58 ml_X1_28 yv_J7_fill_53178 rfl rfl ⟨Nat.le_of_ble_eq_true rfl, Nat.le_of_ble_eq_true rfl⟩ ⟨rfl, rfl⟩ (Nat.le_of_ble_eq_true rfl) ⟨Nat.le_of_ble_eq_true rfl, Nat.le_of_ble_eq_true rfl⟩ ?_
  exact g_nret X hr (fun k => ([q1, q2, q3, q4, (qs5 0)] : List Nat).getD k 0) dX1_init_61 rfl
def F_X4 (cI : ClassId × ClassId) (h0 : Nat) (qs : Nat → Nat) : va_W := [(h0, .inr (4, [.int 0, .int 0, .int 0, .ref (qs 0), .int 0, .int 0, .int 0, .int 0, .int 0])), ((qs 0), .inr (3, [.ref (qs 1), .int 0])), ((qs 1), .inl (cI.1, 24, .inl (fun _ => 0)))]
abbrev rm_X4_init : Room := { frames := 2, cells := 2, slots := 26, locals := 40 }
theorem yi_X4 : yI yX4_init cX4_init 1 := ⟨⟨tb1 83 rfl, tb1 6 rfl, tb1 84 rfl⟩, rfl, by decide +kernel, by decide +kernel, by decide +kernel⟩
theorem dX4_init_0 : decode cX4_init 0 = .ok (.aload_n 0, 1) := by decide +kernel
theorem dX4_init_1 : decode cX4_init 1 = .ok (.invokespecial 3, 3) := by decide +kernel
theorem dX4_init_4 : decode cX4_init 4 = .ok (.aload_n 0, 1) := by decide +kernel
theorem dX4_init_5 : decode cX4_init 5 = .ok (.iconst 0, 1) := by decide +kernel
theorem dX4_init_6 : decode cX4_init 6 = .ok (.putfield 9, 3) := by decide +kernel
theorem dX4_init_9 : decode cX4_init 9 = .ok (.aload_n 0, 1) := by decide +kernel
theorem dX4_init_10 : decode cX4_init 10 = .ok (.new 15, 3) := by decide +kernel
theorem dX4_init_13 : decode cX4_init 13 = .ok (.dup, 1) := by decide +kernel
theorem dX4_init_14 : decode cX4_init 14 = .ok (.invokespecial 17, 3) := by decide +kernel
theorem dX4_init_17 : decode cX4_init 17 = .ok (.putfield 18, 3) := by decide +kernel
theorem dX4_init_20 : decode cX4_init 20 = .ok (.return_, 1) := by decide +kernel
set_option maxRecDepth 100000 in
set_option maxHeartbeats 4000000 in
theorem c_X4_init {l : Launch} {D : va_G} {cI : ClassId × ClassId} {h0 : Nat} : CTn l D cI yX4_init cX4_init 1 rm_X4_init 2 26 h0 (.inr (4, [.int 0, .int 0, .int 0, .null, .int 0, .int 0, .int 0, .int 0, .int 0])) (F_X4 cI h0) := by
  refine CTn.of (by decide +kernel) rfl (Nat.le_of_ble_eq_true rfl) ?_
  intro p e s m args below meth c A X hr hin hA
  have X : gX p s m args meth c cX4_init 1 RX4 D cI := X
  show G _ _ _ _ _ _ _ _ _ _ _ _ _ _ _ _ _ 0 [some (.ref h0)] [] ([(h0, .inr (4, [.int 0, .int 0, .int 0, .null, .int 0, .int 0, .int 0, .int 0, .int 0]))] : va_W)
  refine g_aload_n X (i := 0) dX4_init_0 rfl rfl ?_
  refine g_objI X dX4_init_1 ml_X4_3 ⟨Nat.le_of_ble_eq_true rfl, Nat.le_of_ble_eq_true rfl⟩ ?_
  refine g_aload_n X (i := 0) dX4_init_4 rfl rfl ?_
  refine g_iconst X dX4_init_5 (v := 0) (by decide) ?_
  refine g_put X (wf := wI) (q0 := 0) (w' := [(h0, .inr (4, [.int 0, .int 0, .int 0, .null, .int 0, .int 0, .int 0, .int 0, .int 0]))]) 0 dX4_init_6 gC_X4 rfl rfl (by decide) fl_X4_9 rfl rfl rfl rfl (Nat.le_of_ble_eq_true rfl) rfl ?_
  refine g_aload_n X (i := 0) dX4_init_9 rfl rfl ?_
  refine g_new X hA (C := RX3) (T := TX3) (ty0 := tyX3) (N := 2) (ci := 3) (fs := [.null, .int 0]) dX4_init_10 gC_X3 (tb1 86 rfl) (tb1 34 rfl) (tb1 4 rfl) rfl (fun j hj => by rcases (show j = 0 ∨ j = 1 by omega) with rfl | rfl <;> rfl) ⟨Nat.le_of_ble_eq_true rfl, Nat.le_of_ble_eq_true rfl⟩ (fun q1 => ?_)
  refine g_dup X dX4_init_13 rfl ?_
  refine g_ctorN X hA (c_X3_init (h0 := q1)) dX4_init_14 ml_X4_17 yi_X3 ⟨Nat.le_of_ble_eq_true rfl, Nat.le_of_ble_eq_true rfl⟩ ⟨rfl, rfl⟩ (Nat.le_of_ble_eq_true rfl) ⟨Nat.le_of_ble_eq_true rfl, Nat.le_of_ble_eq_true rfl⟩ (fun qs2 => ?_)
  refine g_putF X hin (q0 := 0) (w' := [(h0, .inr (4, [.int 0, .int 0, .int 0, .ref q1, .int 0, .int 0, .int 0, .int 0, .int 0])), (q1, .inr (3, [.ref (qs2 0), .int 0])), ((qs2 0), .inl (cI.1, 24, .inl (fun _ => 0)))]) 3 dX4_init_17 gC_X4 rfl rfl (by decide) fl_X4_18 rfl rfl rfl rfl rfl (Nat.le_of_ble_eq_true rfl) rfl ?_
  exact g_nret X hr (fun k => ([q1, (qs2 0)] : List Nat).getD k 0) dX4_init_20 rfl
def F_X5 (cI : ClassId × ClassId) (h0 : Nat) (qs : Nat → Nat) : va_W := [(h0, .inr (5, [.ref (qs 0), .ref (qs 6), .ref (qs 9), .int 1, .int 0, .int 0])), ((qs 0), .inr (1, [.int 0, .int 0, .ref (qs 1), .ref (qs 2), .ref (qs 3), .ref (qs 4)])), ((qs 1), .inl (cI.1, 72, .inl (fun _ => (-1)))), ((qs 2), .inl (cI.1, 4, .inl (fun _ => (-1)))), ((qs 3), .inl (cI.1, 4, .inl (fun _ => (-1)))), ((qs 4), .inr (3, [.ref (qs 5), .int 0])), ((qs 5), .inl (cI.1, 24, .inl (fun _ => 0))), ((qs 6), .inr (4, [.int 0, .int 0, .int 0, .ref (qs 7), .int 0, .int 0, .int 0, .int 0, .int 0])), ((qs 7), .inr (3, [.ref (qs 8), .int 0])), ((qs 8), .inl (cI.1, 24, .inl (fun _ => 0))), ((qs 9), .inl (cI.1, 24, .inl (fun _ => 0)))]
abbrev rm_X5_init : Room := { frames := 3, cells := 10, slots := 171, locals := 60 }
theorem yi_X5 : yI yX5_init cX5_init 1 := ⟨⟨tb1 24 rfl, tb1 2 rfl, tb1 25 rfl⟩, rfl, by decide +kernel, by decide +kernel, by decide +kernel⟩
theorem dX5_init_0 : decode cX5_init 0 = .ok (.aload_n 0, 1) := by decide +kernel
theorem dX5_init_1 : decode cX5_init 1 = .ok (.invokespecial 3, 3) := by decide +kernel
theorem dX5_init_4 : decode cX5_init 4 = .ok (.aload_n 0, 1) := by decide +kernel
theorem dX5_init_5 : decode cX5_init 5 = .ok (.new 9, 3) := by decide +kernel
theorem dX5_init_8 : decode cX5_init 8 = .ok (.dup, 1) := by decide +kernel
theorem dX5_init_9 : decode cX5_init 9 = .ok (.invokespecial 11, 3) := by decide +kernel
theorem dX5_init_12 : decode cX5_init 12 = .ok (.putfield 12, 3) := by decide +kernel
theorem dX5_init_15 : decode cX5_init 15 = .ok (.aload_n 0, 1) := by decide +kernel
theorem dX5_init_16 : decode cX5_init 16 = .ok (.new 18, 3) := by decide +kernel
theorem dX5_init_19 : decode cX5_init 19 = .ok (.dup, 1) := by decide +kernel
theorem dX5_init_20 : decode cX5_init 20 = .ok (.invokespecial 20, 3) := by decide +kernel
theorem dX5_init_23 : decode cX5_init 23 = .ok (.putfield 21, 3) := by decide +kernel
theorem dX5_init_26 : decode cX5_init 26 = .ok (.aload_n 0, 1) := by decide +kernel
theorem dX5_init_27 : decode cX5_init 27 = .ok (.bipush 24, 2) := by decide +kernel
theorem dX5_init_29 : decode cX5_init 29 = .ok (.newarray .int, 2) := by decide +kernel
theorem dX5_init_31 : decode cX5_init 31 = .ok (.putfield 25, 3) := by decide +kernel
theorem dX5_init_34 : decode cX5_init 34 = .ok (.aload_n 0, 1) := by decide +kernel
theorem dX5_init_35 : decode cX5_init 35 = .ok (.iconst 1, 1) := by decide +kernel
theorem dX5_init_36 : decode cX5_init 36 = .ok (.putfield 29, 3) := by decide +kernel
theorem dX5_init_39 : decode cX5_init 39 = .ok (.return_, 1) := by decide +kernel
set_option maxRecDepth 100000 in
set_option maxHeartbeats 4000000 in
theorem c_X5_init {l : Launch} {D : va_G} {cI : ClassId × ClassId} {h0 : Nat} : CTn l D cI yX5_init cX5_init 1 rm_X5_init 10 171 h0 (.inr (5, [.null, .null, .null, .int 0, .int 0, .int 0])) (F_X5 cI h0) := by
  refine CTn.of (by decide +kernel) rfl (Nat.le_of_ble_eq_true rfl) ?_
  intro p e s m args below meth c A X hr hin hA
  have X : gX p s m args meth c cX5_init 1 RX5 D cI := X
  show G _ _ _ _ _ _ _ _ _ _ _ _ _ _ _ _ _ 0 [some (.ref h0)] [] ([(h0, .inr (5, [.null, .null, .null, .int 0, .int 0, .int 0]))] : va_W)
  refine g_aload_n X (i := 0) dX5_init_0 rfl rfl ?_
  refine g_objI X dX5_init_1 ml_X5_3 ⟨Nat.le_of_ble_eq_true rfl, Nat.le_of_ble_eq_true rfl⟩ ?_
  refine g_aload_n X (i := 0) dX5_init_4 rfl rfl ?_
  refine g_new X hA (C := RX1) (T := TX1) (ty0 := tyX1) (N := 6) (ci := 1) (fs := [.int 0, .int 0, .null, .null, .null, .null]) dX5_init_5 gC_X1 (tb1 27 rfl) (tb1 28 rfl) (tb1 3 rfl) rfl (fun j hj => by rcases (show j = 0 ∨ j = 1 ∨ j = 2 ∨ j = 3 ∨ j = 4 ∨ j = 5 by omega) with rfl | rfl | rfl | rfl | rfl | rfl <;> rfl) ⟨Nat.le_of_ble_eq_true rfl, Nat.le_of_ble_eq_true rfl⟩ (fun q1 => ?_)
  refine g_dup X dX5_init_8 rfl ?_
  refine g_ctor X hA (c_X1_init (h0 := q1)) dX5_init_9 ml_X5_11 yi_X1 ⟨Nat.le_of_ble_eq_true rfl, Nat.le_of_ble_eq_true rfl⟩ ⟨rfl, rfl⟩ (Nat.le_of_ble_eq_true rfl) ⟨Nat.le_of_ble_eq_true rfl, Nat.le_of_ble_eq_true rfl⟩ (fun qs2 => ?_)
  refine g_putF X hin (q0 := 0) (w' := [(h0, .inr (5, [.ref q1, .null, .null, .int 0, .int 0, .int 0])), (q1, .inr (1, [.int 0, .int 0, .ref (qs2 0), .ref (qs2 1), .ref (qs2 2), .ref (qs2 3)])), ((qs2 0), .inl (cI.1, 72, .inl (fun _ => (-1)))), ((qs2 1), .inl (cI.1, 4, .inl (fun _ => (-1)))), ((qs2 2), .inl (cI.1, 4, .inl (fun _ => (-1)))), ((qs2 3), .inr (3, [.ref (qs2 4), .int 0])), ((qs2 4), .inl (cI.1, 24, .inl (fun _ => 0)))]) 0 dX5_init_12 gC_X5 rfl rfl (by decide) fl_X5_12 rfl rfl rfl rfl rfl (Nat.le_of_ble_eq_true rfl) rfl ?_
  refine g_aload_n X (i := 0) dX5_init_15 rfl rfl ?_
  refine g_new X hA (C := RX4) (T := TX4) (ty0 := tyX4) (N := 9) (ci := 4) (fs := [.int 0, .int 0, .int 0, .null, .int 0, .int 0, .int 0, .int 0, .int 0]) dX5_init_16 gC_X4 (tb1 80 rfl) (tb1 81 rfl) (tb1 6 rfl) rfl (fun j hj => by rcases (show j = 0 ∨ j = 1 ∨ j = 2 ∨ j = 3 ∨ j = 4 ∨ j = 5 ∨ j = 6 ∨ j = 7 ∨ j = 8 by omega) with rfl | rfl | rfl | rfl | rfl | rfl | rfl | rfl | rfl <;> rfl) ⟨Nat.le_of_ble_eq_true rfl, Nat.le_of_ble_eq_true rfl⟩ (fun q3 => ?_)
  refine g_dup X dX5_init_19 rfl ?_
  refine g_ctorN X hA (c_X4_init (h0 := q3)) dX5_init_20 ml_X5_20 yi_X4 ⟨Nat.le_of_ble_eq_true rfl, Nat.le_of_ble_eq_true rfl⟩ ⟨rfl, rfl⟩ (Nat.le_of_ble_eq_true rfl) ⟨Nat.le_of_ble_eq_true rfl, Nat.le_of_ble_eq_true rfl⟩ (fun qs4 => ?_)
  refine g_putF X hin (q0 := 0) (w' := [(h0, .inr (5, [.ref q1, .ref q3, .null, .int 0, .int 0, .int 0])), (q1, .inr (1, [.int 0, .int 0, .ref (qs2 0), .ref (qs2 1), .ref (qs2 2), .ref (qs2 3)])), ((qs2 0), .inl (cI.1, 72, .inl (fun _ => (-1)))), ((qs2 1), .inl (cI.1, 4, .inl (fun _ => (-1)))), ((qs2 2), .inl (cI.1, 4, .inl (fun _ => (-1)))), ((qs2 3), .inr (3, [.ref (qs2 4), .int 0])), ((qs2 4), .inl (cI.1, 24, .inl (fun _ => 0))), (q3, .inr (4, [.int 0, .int 0, .int 0, .ref (qs4 0), .int 0, .int 0, .int 0, .int 0, .int 0])), ((qs4 0), .inr (3, [.ref (qs4 1), .int 0])), ((qs4 1), .inl (cI.1, 24, .inl (fun _ => 0)))]) 1 dX5_init_23 gC_X5 rfl rfl (by decide) fl_X5_21 rfl rfl rfl rfl rfl (Nat.le_of_ble_eq_true rfl) rfl ?_
  refine g_aload_n X (i := 0) dX5_init_26 rfl rfl ?_
  refine g_bipush X dX5_init_27 (v := 24) (by decide) ?_
  refine g_newa X hA 24 dX5_init_29 (by decide) (by decide) (Nat.le_of_ble_eq_true rfl) ⟨Nat.le_of_ble_eq_true rfl, Nat.le_of_ble_eq_true rfl⟩ (fun q5 => ?_)
  refine g_putF X hin (q0 := 0) (w' := [(h0, .inr (5, [.ref q1, .ref q3, .ref q5, .int 0, .int 0, .int 0])), (q1, .inr (1, [.int 0, .int 0, .ref (qs2 0), .ref (qs2 1), .ref (qs2 2), .ref (qs2 3)])), ((qs2 0), .inl (cI.1, 72, .inl (fun _ => (-1)))), ((qs2 1), .inl (cI.1, 4, .inl (fun _ => (-1)))), ((qs2 2), .inl (cI.1, 4, .inl (fun _ => (-1)))), ((qs2 3), .inr (3, [.ref (qs2 4), .int 0])), ((qs2 4), .inl (cI.1, 24, .inl (fun _ => 0))), (q3, .inr (4, [.int 0, .int 0, .int 0, .ref (qs4 0), .int 0, .int 0, .int 0, .int 0, .int 0])), ((qs4 0), .inr (3, [.ref (qs4 1), .int 0])), ((qs4 1), .inl (cI.1, 24, .inl (fun _ => 0))), (q5, .inl (cI.1, 24, .inl (fun _ => 0)))]) 2 dX5_init_31 gC_X5 rfl rfl (by decide) fl_X5_25 rfl rfl rfl rfl rfl (Nat.le_of_ble_eq_true rfl) rfl ?_
  refine g_aload_n X (i := 0) dX5_init_34 rfl rfl ?_
  refine g_iconst X dX5_init_35 (v := 1) (by decide) ?_
  refine g_put X (wf := wI) (q0 := 0) (w' := [(h0, .inr (5, [.ref q1, .ref q3, .ref q5, .int 1, .int 0, .int 0])), (q1, .inr (1, [.int 0, .int 0, .ref (qs2 0), .ref (qs2 1), .ref (qs2 2), .ref (qs2 3)])), ((qs2 0), .inl (cI.1, 72, .inl (fun _ => (-1)))), ((qs2 1), .inl (cI.1, 4, .inl (fun _ => (-1)))), ((qs2 2), .inl (cI.1, 4, .inl (fun _ => (-1)))), ((qs2 3), .inr (3, [.ref (qs2 4), .int 0])), ((qs2 4), .inl (cI.1, 24, .inl (fun _ => 0))), (q3, .inr (4, [.int 0, .int 0, .int 0, .ref (qs4 0), .int 0, .int 0, .int 0, .int 0, .int 0])), ((qs4 0), .inr (3, [.ref (qs4 1), .int 0])), ((qs4 1), .inl (cI.1, 24, .inl (fun _ => 0))), (q5, .inl (cI.1, 24, .inl (fun _ => 0)))]) 3 dX5_init_36 gC_X5 rfl rfl (by decide) fl_X5_29 rfl rfl rfl rfl (Nat.le_of_ble_eq_true rfl) rfl ?_
  exact g_nret X hr (fun k => ([q1, (qs2 0), (qs2 1), (qs2 2), (qs2 3), (qs2 4), q3, (qs4 0), (qs4 1), q5] : List Nat).getD k 0) dX5_init_39 rfl
def F_X0 (cI : ClassId × ClassId) (h0 : Nat) (qs : Nat → Nat) : va_W := [(h0, .inr (0, [.ref (qs 0), .int 0, .int 0, .int 0, .int 0, .int 0, .int 0, .int 0, .int 0, .int 0, .int 0])), ((qs 0), .inl (cI.1, 60, .inl (fun _ => 0)))]
abbrev rm_X0_init : Room := { frames := 1, cells := 1, slots := 60, locals := 20 }
theorem yi_X0 : yI yX0_init cX0_init 1 := ⟨⟨tb1 170 rfl, tb1 8 rfl, tb1 171 rfl⟩, rfl, by decide +kernel, by decide +kernel, by decide +kernel⟩
theorem dX0_init_0 : decode cX0_init 0 = .ok (.aload_n 0, 1) := by decide +kernel
theorem dX0_init_1 : decode cX0_init 1 = .ok (.invokespecial 3, 3) := by decide +kernel
theorem dX0_init_4 : decode cX0_init 4 = .ok (.aload_n 0, 1) := by decide +kernel
theorem dX0_init_5 : decode cX0_init 5 = .ok (.bipush 60, 2) := by decide +kernel
theorem dX0_init_7 : decode cX0_init 7 = .ok (.newarray .int, 2) := by decide +kernel
theorem dX0_init_9 : decode cX0_init 9 = .ok (.putfield 9, 3) := by decide +kernel
theorem dX0_init_12 : decode cX0_init 12 = .ok (.return_, 1) := by decide +kernel
set_option maxRecDepth 100000 in
set_option maxHeartbeats 4000000 in
theorem c_X0_init {l : Launch} {D : va_G} {cI : ClassId × ClassId} {h0 : Nat} : CTn l D cI yX0_init cX0_init 1 rm_X0_init 1 60 h0 (.inr (0, [.null, .int 0, .int 0, .int 0, .int 0, .int 0, .int 0, .int 0, .int 0, .int 0, .int 0])) (F_X0 cI h0) := by
  refine CTn.of (by decide +kernel) rfl (Nat.le_of_ble_eq_true rfl) ?_
  intro p e s m args below meth c A X hr hin hA
  have X : gX p s m args meth c cX0_init 1 RX0 D cI := X
  show G _ _ _ _ _ _ _ _ _ _ _ _ _ _ _ _ _ 0 [some (.ref h0)] [] ([(h0, .inr (0, [.null, .int 0, .int 0, .int 0, .int 0, .int 0, .int 0, .int 0, .int 0, .int 0, .int 0]))] : va_W)
  refine g_aload_n X (i := 0) dX0_init_0 rfl rfl ?_
  refine g_objI X dX0_init_1 ml_X0_3 ⟨Nat.le_of_ble_eq_true rfl, Nat.le_of_ble_eq_true rfl⟩ ?_
  refine g_aload_n X (i := 0) dX0_init_4 rfl rfl ?_
  refine g_bipush X dX0_init_5 (v := 60) (by decide) ?_
  refine g_newa X hA 60 dX0_init_7 (by decide) (by decide) (Nat.le_of_ble_eq_true rfl) ⟨Nat.le_of_ble_eq_true rfl, Nat.le_of_ble_eq_true rfl⟩ (fun q1 => ?_)
  refine g_putF X hin (q0 := 0) (w' := [(h0, .inr (0, [.ref q1, .int 0, .int 0, .int 0, .int 0, .int 0, .int 0, .int 0, .int 0, .int 0, .int 0])), (q1, .inl (cI.1, 60, .inl (fun _ => 0)))]) 0 dX0_init_9 gC_X0 rfl rfl (by decide) fl_X0_9 rfl rfl rfl rfl rfl (Nat.le_of_ble_eq_true rfl) rfl ?_
  exact g_nret X hr (fun k => ([q1] : List Nat).getD k 0) dX0_init_12 rfl
def F_X2 (cI : ClassId × ClassId) (h0 : Nat) (qs : Nat → Nat) : va_W := [(h0, .inr (2, [.ref (qs 0), .int 0, .int 0])), ((qs 0), .inl (cI.2, 5, .inr (.inr (.inr (.inr (va_up (va_up (va_up (va_up (va_up (fun _ => none) (0 : Int32).toNatClampNeg (some (qs 1))) (0 + 1 : Int32).toNatClampNeg (some (qs 12))) ((0 + 1) + 1 : Int32).toNatClampNeg (some (qs 23))) (((0 + 1) + 1) + 1 : Int32).toNatClampNeg (some (qs 34))) ((((0 + 1) + 1) + 1) + 1 : Int32).toNatClampNeg (some (qs 45)))))))), ((qs 1), .inr (5, [.ref (qs 2), .ref (qs 8), .ref (qs 11), .int 1, .int 0, .int 0])), ((qs 2), .inr (1, [.int 0, .int 0, .ref (qs 3), .ref (qs 4), .ref (qs 5), .ref (qs 6)])), ((qs 3), .inl (cI.1, 72, .inl (fun _ => (-1)))), ((qs 4), .inl (cI.1, 4, .inl (fun _ => (-1)))), ((qs 5), .inl (cI.1, 4, .inl (fun _ => (-1)))), ((qs 6), .inr (3, [.ref (qs 7), .int 0])), ((qs 7), .inl (cI.1, 24, .inl (fun _ => 0))), ((qs 8), .inr (4, [.int 0, .int 0, .int 0, .ref (qs 9), .int 0, .int 0, .int 0, .int 0, .int 0])), ((qs 9), .inr (3, [.ref (qs 10), .int 0])), ((qs 10), .inl (cI.1, 24, .inl (fun _ => 0))), ((qs 11), .inl (cI.1, 24, .inl (fun _ => 0))), ((qs 12), .inr (5, [.ref (qs 13), .ref (qs 19), .ref (qs 22), .int 1, .int 0, .int 0])), ((qs 13), .inr (1, [.int 0, .int 0, .ref (qs 14), .ref (qs 15), .ref (qs 16), .ref (qs 17)])), ((qs 14), .inl (cI.1, 72, .inl (fun _ => (-1)))), ((qs 15), .inl (cI.1, 4, .inl (fun _ => (-1)))), ((qs 16), .inl (cI.1, 4, .inl (fun _ => (-1)))), ((qs 17), .inr (3, [.ref (qs 18), .int 0])), ((qs 18), .inl (cI.1, 24, .inl (fun _ => 0))), ((qs 19), .inr (4, [.int 0, .int 0, .int 0, .ref (qs 20), .int 0, .int 0, .int 0, .int 0, .int 0])), ((qs 20), .inr (3, [.ref (qs 21), .int 0])), ((qs 21), .inl (cI.1, 24, .inl (fun _ => 0))), ((qs 22), .inl (cI.1, 24, .inl (fun _ => 0))), ((qs 23), .inr (5, [.ref (qs 24), .ref (qs 30), .ref (qs 33), .int 1, .int 0, .int 0])), ((qs 24), .inr (1, [.int 0, .int 0, .ref (qs 25), .ref (qs 26), .ref (qs 27), .ref (qs 28)])), ((qs 25), .inl (cI.1, 72, .inl (fun _ => (-1)))), ((qs 26), .inl (cI.1, 4, .inl (fun _ => (-1)))), ((qs 27), .inl (cI.1, 4, .inl (fun _ => (-1)))), ((qs 28), .inr (3, [.ref (qs 29), .int 0])), ((qs 29), .inl (cI.1, 24, .inl (fun _ => 0))), ((qs 30), .inr (4, [.int 0, .int 0, .int 0, .ref (qs 31), .int 0, .int 0, .int 0, .int 0, .int 0])), ((qs 31), .inr (3, [.ref (qs 32), .int 0])), ((qs 32), .inl (cI.1, 24, .inl (fun _ => 0))), ((qs 33), .inl (cI.1, 24, .inl (fun _ => 0))), ((qs 34), .inr (5, [.ref (qs 35), .ref (qs 41), .ref (qs 44), .int 1, .int 0, .int 0])), ((qs 35), .inr (1, [.int 0, .int 0, .ref (qs 36), .ref (qs 37), .ref (qs 38), .ref (qs 39)])), ((qs 36), .inl (cI.1, 72, .inl (fun _ => (-1)))), ((qs 37), .inl (cI.1, 4, .inl (fun _ => (-1)))), ((qs 38), .inl (cI.1, 4, .inl (fun _ => (-1)))), ((qs 39), .inr (3, [.ref (qs 40), .int 0])), ((qs 40), .inl (cI.1, 24, .inl (fun _ => 0))), ((qs 41), .inr (4, [.int 0, .int 0, .int 0, .ref (qs 42), .int 0, .int 0, .int 0, .int 0, .int 0])), ((qs 42), .inr (3, [.ref (qs 43), .int 0])), ((qs 43), .inl (cI.1, 24, .inl (fun _ => 0))), ((qs 44), .inl (cI.1, 24, .inl (fun _ => 0))), ((qs 45), .inr (5, [.ref (qs 46), .ref (qs 52), .ref (qs 55), .int 1, .int 0, .int 0])), ((qs 46), .inr (1, [.int 0, .int 0, .ref (qs 47), .ref (qs 48), .ref (qs 49), .ref (qs 50)])), ((qs 47), .inl (cI.1, 72, .inl (fun _ => (-1)))), ((qs 48), .inl (cI.1, 4, .inl (fun _ => (-1)))), ((qs 49), .inl (cI.1, 4, .inl (fun _ => (-1)))), ((qs 50), .inr (3, [.ref (qs 51), .int 0])), ((qs 51), .inl (cI.1, 24, .inl (fun _ => 0))), ((qs 52), .inr (4, [.int 0, .int 0, .int 0, .ref (qs 53), .int 0, .int 0, .int 0, .int 0, .int 0])), ((qs 53), .inr (3, [.ref (qs 54), .int 0])), ((qs 54), .inl (cI.1, 24, .inl (fun _ => 0))), ((qs 55), .inl (cI.1, 24, .inl (fun _ => 0)))]
abbrev rm_X2_init : Room := { frames := 4, cells := 56, slots := 890, locals := 80 }
theorem yi_X2 : yI yX2_init cX2_init 2 := ⟨⟨tb1 150 rfl, tb1 7 rfl, tb1 151 rfl⟩, rfl, by decide +kernel, by decide +kernel, by decide +kernel⟩
theorem dX2_init_0 : decode cX2_init 0 = .ok (.aload_n 0, 1) := by decide +kernel
theorem dX2_init_1 : decode cX2_init 1 = .ok (.invokespecial 3, 3) := by decide +kernel
theorem dX2_init_4 : decode cX2_init 4 = .ok (.aload_n 0, 1) := by decide +kernel
theorem dX2_init_5 : decode cX2_init 5 = .ok (.iconst 5, 1) := by decide +kernel
theorem dX2_init_6 : decode cX2_init 6 = .ok (.anewarray 9, 3) := by decide +kernel
theorem dX2_init_9 : decode cX2_init 9 = .ok (.putfield 11, 3) := by decide +kernel
theorem dX2_init_12 : decode cX2_init 12 = .ok (.iconst 0, 1) := by decide +kernel
theorem dX2_init_13 : decode cX2_init 13 = .ok (.istore_n 1, 1) := by decide +kernel
theorem dX2_init_14 : decode cX2_init 14 = .ok (.iload_n 1, 1) := by decide +kernel
theorem dX2_init_15 : decode cX2_init 15 = .ok (.iconst 4, 1) := by decide +kernel
theorem dX2_init_16 : decode cX2_init 16 = .ok (.if_icmp .gt 22, 3) := by decide +kernel
theorem dX2_init_19 : decode cX2_init 19 = .ok (.aload_n 0, 1) := by decide +kernel
theorem dX2_init_20 : decode cX2_init 20 = .ok (.getfield 11, 3) := by decide +kernel
theorem dX2_init_23 : decode cX2_init 23 = .ok (.iload_n 1, 1) := by decide +kernel
theorem dX2_init_24 : decode cX2_init 24 = .ok (.new 9, 3) := by decide +kernel
theorem dX2_init_27 : decode cX2_init 27 = .ok (.dup, 1) := by decide +kernel
theorem dX2_init_28 : decode cX2_init 28 = .ok (.invokespecial 17, 3) := by decide +kernel
theorem dX2_init_31 : decode cX2_init 31 = .ok (.aastore, 1) := by decide +kernel
theorem dX2_init_32 : decode cX2_init 32 = .ok (.iinc 1 1, 3) := by decide +kernel
theorem dX2_init_35 : decode cX2_init 35 = .ok (.goto (-21), 3) := by decide +kernel
theorem dX2_init_38 : decode cX2_init 38 = .ok (.return_, 1) := by decide +kernel
set_option maxRecDepth 100000 in
set_option maxHeartbeats 4000000 in
theorem c_X2_init {l : Launch} {D : va_G} {cI : ClassId × ClassId} {h0 : Nat} : CTn l D cI yX2_init cX2_init 2 rm_X2_init 56 890 h0 (.inr (2, [.null, .int 0, .int 0])) (F_X2 cI h0) := by
  refine CTn.of (by decide +kernel) rfl (Nat.le_of_ble_eq_true rfl) ?_
  intro p e s m args below meth c A X hr hin hA
  have X : gX p s m args meth c cX2_init 2 RX2 D cI := X
  show G _ _ _ _ _ _ _ _ _ _ _ _ _ _ _ _ _ 0 [some (.ref h0), none] [] ([(h0, .inr (2, [.null, .int 0, .int 0]))] : va_W)
  refine g_aload_n X (i := 0) dX2_init_0 rfl rfl ?_
  refine g_objI X dX2_init_1 ml_X2_3 ⟨Nat.le_of_ble_eq_true rfl, Nat.le_of_ble_eq_true rfl⟩ ?_
  refine g_aload_n X (i := 0) dX2_init_4 rfl rfl ?_
  refine g_iconst X dX2_init_5 (v := 5) (by decide) ?_
  refine g_newq X hA 5 dX2_init_6 (tb1 153 rfl) (by decide) (by decide) (Nat.le_of_ble_eq_true rfl) ⟨Nat.le_of_ble_eq_true rfl, Nat.le_of_ble_eq_true rfl⟩ (fun q1 => ?_)
  refine g_putF X hin (q0 := 0) (w' := [(h0, .inr (2, [.ref q1, .int 0, .int 0])), (q1, .inl (cI.2, 5, .inr (.inr (.inr (.inr (fun _ => none))))))]) 0 dX2_init_9 gC_X2 rfl rfl (by decide) fl_X2_11 rfl rfl rfl rfl rfl (Nat.le_of_ble_eq_true rfl) rfl ?_
  refine g_iconst X dX2_init_12 (v := 0) (by decide) ?_
  refine g_istore_n X (i := 1) dX2_init_13 rfl (by decide) rfl ?_
  refine g_iload_n X (i := 1) dX2_init_14 rfl rfl ?_
  refine g_iconst X dX2_init_15 (v := 4) (by decide) ?_
  refine g_icmp_gt X dX2_init_16 (tgt := 38) (by decide) (F1 := some ()) (F2 := some ()) (o := ()) (by split <;> rfl) (fun cc0 _ => ?_) (fun cc0 _ => ?_)
  · exact absurd cc0 (by decide)
  refine g_aload_n X (i := 0) dX2_init_19 rfl rfl ?_
  refine g_get X (wf := wI) (q0 := 0) (v := .ref q1) 0 dX2_init_20 gC_X2 rfl rfl (by decide) fl_X2_11 rfl rfl ?_
  refine g_iload_n X (i := 1) dX2_init_23 rfl rfl ?_
  refine g_new X hA (C := RX5) (T := TX5) (ty0 := tyX5) (N := 6) (ci := 5) (fs := [.null, .null, .null, .int 0, .int 0, .int 0]) dX2_init_24 gC_X5 (tb1 153 rfl) (tb1 22 rfl) (tb1 2 rfl) rfl (fun j hj => by rcases (show j = 0 ∨ j = 1 ∨ j = 2 ∨ j = 3 ∨ j = 4 ∨ j = 5 by omega) with rfl | rfl | rfl | rfl | rfl | rfl <;> rfl) ⟨Nat.le_of_ble_eq_true rfl, Nat.le_of_ble_eq_true rfl⟩ (fun q2 => ?_)
  refine g_dup X dX2_init_27 rfl ?_
  refine g_ctorN X hA (c_X5_init (h0 := q2)) dX2_init_28 ml_X2_17 yi_X5 ⟨Nat.le_of_ble_eq_true rfl, Nat.le_of_ble_eq_true rfl⟩ ⟨rfl, rfl⟩ (Nat.le_of_ble_eq_true rfl) ⟨Nat.le_of_ble_eq_true rfl, Nat.le_of_ble_eq_true rfl⟩ (fun qs3 => ?_)
  refine g_astq X (q0 := 1) (qk := 2) (f := fun _ => none) (w' := [(h0, .inr (2, [.ref q1, .int 0, .int 0])), (q1, .inl (cI.2, 5, .inr (.inr (.inr (.inr (va_up (fun _ => none) (0 : Int32).toNatClampNeg (some q2))))))), (q2, .inr (5, [.ref (qs3 0), .ref (qs3 6), .ref (qs3 9), .int 1, .int 0, .int 0])), ((qs3 0), .inr (1, [.int 0, .int 0, .ref (qs3 1), .ref (qs3 2), .ref (qs3 3), .ref (qs3 4)])), ((qs3 1), .inl (cI.1, 72, .inl (fun _ => (-1)))), ((qs3 2), .inl (cI.1, 4, .inl (fun _ => (-1)))), ((qs3 3), .inl (cI.1, 4, .inl (fun _ => (-1)))), ((qs3 4), .inr (3, [.ref (qs3 5), .int 0])), ((qs3 5), .inl (cI.1, 24, .inl (fun _ => 0))), ((qs3 6), .inr (4, [.int 0, .int 0, .int 0, .ref (qs3 7), .int 0, .int 0, .int 0, .int 0, .int 0])), ((qs3 7), .inr (3, [.ref (qs3 8), .int 0])), ((qs3 8), .inl (cI.1, 24, .inl (fun _ => 0))), ((qs3 9), .inl (cI.1, 24, .inl (fun _ => 0)))]) dX2_init_31 rfl rfl rfl ⟨by decide, by decide⟩ rfl ?_
  refine g_iinc X (i := 1) (v := 1) dX2_init_32 rfl (by decide) (by decide) rfl ?_
  refine g_goto X dX2_init_35 (tgt := 14) (by decide) ?_
  refine g_iload_n X (i := 1) dX2_init_14 rfl rfl ?_
  refine g_iconst X dX2_init_15 (v := 4) (by decide) ?_
  refine g_icmp_gt X dX2_init_16 (tgt := 38) (by decide) (F1 := some ()) (F2 := some ()) (o := ()) (by split <;> rfl) (fun cc1 _ => ?_) (fun cc1 _ => ?_)
  · exact absurd cc1 (by decide)
  refine g_aload_n X (i := 0) dX2_init_19 rfl rfl ?_
  refine g_get X (wf := wI) (q0 := 0) (v := .ref q1) 0 dX2_init_20 gC_X2 rfl rfl (by decide) fl_X2_11 rfl rfl ?_
  refine g_iload_n X (i := 1) dX2_init_23 rfl rfl ?_
  refine g_new X hA (C := RX5) (T := TX5) (ty0 := tyX5) (N := 6) (ci := 5) (fs := [.null, .null, .null, .int 0, .int 0, .int 0]) dX2_init_24 gC_X5 (tb1 153 rfl) (tb1 22 rfl) (tb1 2 rfl) rfl (fun j hj => by rcases (show j = 0 ∨ j = 1 ∨ j = 2 ∨ j = 3 ∨ j = 4 ∨ j = 5 by omega) with rfl | rfl | rfl | rfl | rfl | rfl <;> rfl) ⟨Nat.le_of_ble_eq_true rfl, Nat.le_of_ble_eq_true rfl⟩ (fun q4 => ?_)
  refine g_dup X dX2_init_27 rfl ?_
  refine g_ctorN X hA (c_X5_init (h0 := q4)) dX2_init_28 ml_X2_17 yi_X5 ⟨Nat.le_of_ble_eq_true rfl, Nat.le_of_ble_eq_true rfl⟩ ⟨rfl, rfl⟩ (Nat.le_of_ble_eq_true rfl) ⟨Nat.le_of_ble_eq_true rfl, Nat.le_of_ble_eq_true rfl⟩ (fun qs5 => ?_)
  refine g_astq X (q0 := 1) (qk := 13) (f := va_up (fun _ => none) (0 : Int32).toNatClampNeg (some q2)) (w' := [(h0, .inr (2, [.ref q1, .int 0, .int 0])), (q1, .inl (cI.2, 5, .inr (.inr (.inr (.inr (va_up (va_up (fun _ => none) (0 : Int32).toNatClampNeg (some q2)) (0 + 1 : Int32).toNatClampNeg (some q4))))))), (q2, .inr (5, [.ref (qs3 0), .ref (qs3 6), .ref (qs3 9), .int 1, .int 0, .int 0])), ((qs3 0), .inr (1, [.int 0, .int 0, .ref (qs3 1), .ref (qs3 2), .ref (qs3 3), .ref (qs3 4)])), ((qs3 1), .inl (cI.1, 72, .inl (fun _ => (-1)))), ((qs3 2), .inl (cI.1, 4, .inl (fun _ => (-1)))), ((qs3 3), .inl (cI.1, 4, .inl (fun _ => (-1)))), ((qs3 4), .inr (3, [.ref (qs3 5), .int 0])), ((qs3 5), .inl (cI.1, 24, .inl (fun _ => 0))), ((qs3 6), .inr (4, [.int 0, .int 0, .int 0, .ref (qs3 7), .int 0, .int 0, .int 0, .int 0, .int 0])), ((qs3 7), .inr (3, [.ref (qs3 8), .int 0])), ((qs3 8), .inl (cI.1, 24, .inl (fun _ => 0))), ((qs3 9), .inl (cI.1, 24, .inl (fun _ => 0))), (q4, .inr (5, [.ref (qs5 0), .ref (qs5 6), .ref (qs5 9), .int 1, .int 0, .int 0])), ((qs5 0), .inr (1, [.int 0, .int 0, .ref (qs5 1), .ref (qs5 2), .ref (qs5 3), .ref (qs5 4)])), ((qs5 1), .inl (cI.1, 72, .inl (fun _ => (-1)))), ((qs5 2), .inl (cI.1, 4, .inl (fun _ => (-1)))), ((qs5 3), .inl (cI.1, 4, .inl (fun _ => (-1)))), ((qs5 4), .inr (3, [.ref (qs5 5), .int 0])), ((qs5 5), .inl (cI.1, 24, .inl (fun _ => 0))), ((qs5 6), .inr (4, [.int 0, .int 0, .int 0, .ref (qs5 7), .int 0, .int 0, .int 0, .int 0, .int 0])), ((qs5 7), .inr (3, [.ref (qs5 8), .int 0])), ((qs5 8), .inl (cI.1, 24, .inl (fun _ => 0))), ((qs5 9), .inl (cI.1, 24, .inl (fun _ => 0)))]) dX2_init_31 rfl rfl rfl ⟨by decide, by decide⟩ rfl ?_
  refine g_iinc X (i := 1) (v := 1) dX2_init_32 rfl (by decide) (by decide) rfl ?_
  refine g_goto X dX2_init_35 (tgt := 14) (by decide) ?_
  refine g_iload_n X (i := 1) dX2_init_14 rfl rfl ?_
  refine g_iconst X dX2_init_15 (v := 4) (by decide) ?_
  refine g_icmp_gt X dX2_init_16 (tgt := 38) (by decide) (F1 := some ()) (F2 := some ()) (o := ()) (by split <;> rfl) (fun cc2 _ => ?_) (fun cc2 _ => ?_)
  · exact absurd cc2 (by decide)
  refine g_aload_n X (i := 0) dX2_init_19 rfl rfl ?_
  refine g_get X (wf := wI) (q0 := 0) (v := .ref q1) 0 dX2_init_20 gC_X2 rfl rfl (by decide) fl_X2_11 rfl rfl ?_
  refine g_iload_n X (i := 1) dX2_init_23 rfl rfl ?_
  refine g_new X hA (C := RX5) (T := TX5) (ty0 := tyX5) (N := 6) (ci := 5) (fs := [.null, .null, .null, .int 0, .int 0, .int 0]) dX2_init_24 gC_X5 (tb1 153 rfl) (tb1 22 rfl) (tb1 2 rfl) rfl (fun j hj => by rcases (show j = 0 ∨ j = 1 ∨ j = 2 ∨ j = 3 ∨ j = 4 ∨ j = 5 by omega) with rfl | rfl | rfl | rfl | rfl | rfl <;> rfl) ⟨Nat.le_of_ble_eq_true rfl, Nat.le_of_ble_eq_true rfl⟩ (fun q6 => ?_)
  refine g_dup X dX2_init_27 rfl ?_
  refine g_ctorN X hA (c_X5_init (h0 := q6)) dX2_init_28 ml_X2_17 yi_X5 ⟨Nat.le_of_ble_eq_true rfl, Nat.le_of_ble_eq_true rfl⟩ ⟨rfl, rfl⟩ (Nat.le_of_ble_eq_true rfl) ⟨Nat.le_of_ble_eq_true rfl, Nat.le_of_ble_eq_true rfl⟩ (fun qs7 => ?_)
  refine g_astq X (q0 := 1) (qk := 24) (f := va_up (va_up (fun _ => none) (0 : Int32).toNatClampNeg (some q2)) (0 + 1 : Int32).toNatClampNeg (some q4)) (w' := [(h0, .inr (2, [.ref q1, .int 0, .int 0])), (q1, .inl (cI.2, 5, .inr (.inr (.inr (.inr (va_up (va_up (va_up (fun _ => none) (0 : Int32).toNatClampNeg (some q2)) (0 + 1 : Int32).toNatClampNeg (some q4)) ((0 + 1) + 1 : Int32).toNatClampNeg (some q6))))))), (q2, .inr (5, [.ref (qs3 0), .ref (qs3 6), .ref (qs3 9), .int 1, .int 0, .int 0])), ((qs3 0), .inr (1, [.int 0, .int 0, .ref (qs3 1), .ref (qs3 2), .ref (qs3 3), .ref (qs3 4)])), ((qs3 1), .inl (cI.1, 72, .inl (fun _ => (-1)))), ((qs3 2), .inl (cI.1, 4, .inl (fun _ => (-1)))), ((qs3 3), .inl (cI.1, 4, .inl (fun _ => (-1)))), ((qs3 4), .inr (3, [.ref (qs3 5), .int 0])), ((qs3 5), .inl (cI.1, 24, .inl (fun _ => 0))), ((qs3 6), .inr (4, [.int 0, .int 0, .int 0, .ref (qs3 7), .int 0, .int 0, .int 0, .int 0, .int 0])), ((qs3 7), .inr (3, [.ref (qs3 8), .int 0])), ((qs3 8), .inl (cI.1, 24, .inl (fun _ => 0))), ((qs3 9), .inl (cI.1, 24, .inl (fun _ => 0))), (q4, .inr (5, [.ref (qs5 0), .ref (qs5 6), .ref (qs5 9), .int 1, .int 0, .int 0])), ((qs5 0), .inr (1, [.int 0, .int 0, .ref (qs5 1), .ref (qs5 2), .ref (qs5 3), .ref (qs5 4)])), ((qs5 1), .inl (cI.1, 72, .inl (fun _ => (-1)))), ((qs5 2), .inl (cI.1, 4, .inl (fun _ => (-1)))), ((qs5 3), .inl (cI.1, 4, .inl (fun _ => (-1)))), ((qs5 4), .inr (3, [.ref (qs5 5), .int 0])), ((qs5 5), .inl (cI.1, 24, .inl (fun _ => 0))), ((qs5 6), .inr (4, [.int 0, .int 0, .int 0, .ref (qs5 7), .int 0, .int 0, .int 0, .int 0, .int 0])), ((qs5 7), .inr (3, [.ref (qs5 8), .int 0])), ((qs5 8), .inl (cI.1, 24, .inl (fun _ => 0))), ((qs5 9), .inl (cI.1, 24, .inl (fun _ => 0))), (q6, .inr (5, [.ref (qs7 0), .ref (qs7 6), .ref (qs7 9), .int 1, .int 0, .int 0])), ((qs7 0), .inr (1, [.int 0, .int 0, .ref (qs7 1), .ref (qs7 2), .ref (qs7 3), .ref (qs7 4)])), ((qs7 1), .inl (cI.1, 72, .inl (fun _ => (-1)))), ((qs7 2), .inl (cI.1, 4, .inl (fun _ => (-1)))), ((qs7 3), .inl (cI.1, 4, .inl (fun _ => (-1)))), ((qs7 4), .inr (3, [.ref (qs7 5), .int 0])), ((qs7 5), .inl (cI.1, 24, .inl (fun _ => 0))), ((qs7 6), .inr (4, [.int 0, .int 0, .int 0, .ref (qs7 7), .int 0, .int 0, .int 0, .int 0, .int 0])), ((qs7 7), .inr (3, [.ref (qs7 8), .int 0])), ((qs7 8), .inl (cI.1, 24, .inl (fun _ => 0))), ((qs7 9), .inl (cI.1, 24, .inl (fun _ => 0)))]) dX2_init_31 rfl rfl rfl ⟨by decide, by decide⟩ rfl ?_
  refine g_iinc X (i := 1) (v := 1) dX2_init_32 rfl (by decide) (by decide) rfl ?_
  refine g_goto X dX2_init_35 (tgt := 14) (by decide) ?_
  refine g_iload_n X (i := 1) dX2_init_14 rfl rfl ?_
  refine g_iconst X dX2_init_15 (v := 4) (by decide) ?_
  refine g_icmp_gt X dX2_init_16 (tgt := 38) (by decide) (F1 := some ()) (F2 := some ()) (o := ()) (by split <;> rfl) (fun cc3 _ => ?_) (fun cc3 _ => ?_)
  · exact absurd cc3 (by decide)
  refine g_aload_n X (i := 0) dX2_init_19 rfl rfl ?_
  refine g_get X (wf := wI) (q0 := 0) (v := .ref q1) 0 dX2_init_20 gC_X2 rfl rfl (by decide) fl_X2_11 rfl rfl ?_
  refine g_iload_n X (i := 1) dX2_init_23 rfl rfl ?_
  refine g_new X hA (C := RX5) (T := TX5) (ty0 := tyX5) (N := 6) (ci := 5) (fs := [.null, .null, .null, .int 0, .int 0, .int 0]) dX2_init_24 gC_X5 (tb1 153 rfl) (tb1 22 rfl) (tb1 2 rfl) rfl (fun j hj => by rcases (show j = 0 ∨ j = 1 ∨ j = 2 ∨ j = 3 ∨ j = 4 ∨ j = 5 by omega) with rfl | rfl | rfl | rfl | rfl | rfl <;> rfl) ⟨Nat.le_of_ble_eq_true rfl, Nat.le_of_ble_eq_true rfl⟩ (fun q8 => ?_)
  refine g_dup X dX2_init_27 rfl ?_
  refine g_ctorN X hA (c_X5_init (h0 := q8)) dX2_init_28 ml_X2_17 yi_X5 ⟨Nat.le_of_ble_eq_true rfl, Nat.le_of_ble_eq_true rfl⟩ ⟨rfl, rfl⟩ (Nat.le_of_ble_eq_true rfl) ⟨Nat.le_of_ble_eq_true rfl, Nat.le_of_ble_eq_true rfl⟩ (fun qs9 => ?_)
  refine g_astq X (q0 := 1) (qk := 35) (f := va_up (va_up (va_up (fun _ => none) (0 : Int32).toNatClampNeg (some q2)) (0 + 1 : Int32).toNatClampNeg (some q4)) ((0 + 1) + 1 : Int32).toNatClampNeg (some q6)) (w' := [(h0, .inr (2, [.ref q1, .int 0, .int 0])), (q1, .inl (cI.2, 5, .inr (.inr (.inr (.inr (va_up (va_up (va_up (va_up (fun _ => none) (0 : Int32).toNatClampNeg (some q2)) (0 + 1 : Int32).toNatClampNeg (some q4)) ((0 + 1) + 1 : Int32).toNatClampNeg (some q6)) (((0 + 1) + 1) + 1 : Int32).toNatClampNeg (some q8))))))), (q2, .inr (5, [.ref (qs3 0), .ref (qs3 6), .ref (qs3 9), .int 1, .int 0, .int 0])), ((qs3 0), .inr (1, [.int 0, .int 0, .ref (qs3 1), .ref (qs3 2), .ref (qs3 3), .ref (qs3 4)])), ((qs3 1), .inl (cI.1, 72, .inl (fun _ => (-1)))), ((qs3 2), .inl (cI.1, 4, .inl (fun _ => (-1)))), ((qs3 3), .inl (cI.1, 4, .inl (fun _ => (-1)))), ((qs3 4), .inr (3, [.ref (qs3 5), .int 0])), ((qs3 5), .inl (cI.1, 24, .inl (fun _ => 0))), ((qs3 6), .inr (4, [.int 0, .int 0, .int 0, .ref (qs3 7), .int 0, .int 0, .int 0, .int 0, .int 0])), ((qs3 7), .inr (3, [.ref (qs3 8), .int 0])), ((qs3 8), .inl (cI.1, 24, .inl (fun _ => 0))), ((qs3 9), .inl (cI.1, 24, .inl (fun _ => 0))), (q4, .inr (5, [.ref (qs5 0), .ref (qs5 6), .ref (qs5 9), .int 1, .int 0, .int 0])), ((qs5 0), .inr (1, [.int 0, .int 0, .ref (qs5 1), .ref (qs5 2), .ref (qs5 3), .ref (qs5 4)])), ((qs5 1), .inl (cI.1, 72, .inl (fun _ => (-1)))), ((qs5 2), .inl (cI.1, 4, .inl (fun _ => (-1)))), ((qs5 3), .inl (cI.1, 4, .inl (fun _ => (-1)))), ((qs5 4), .inr (3, [.ref (qs5 5), .int 0])), ((qs5 5), .inl (cI.1, 24, .inl (fun _ => 0))), ((qs5 6), .inr (4, [.int 0, .int 0, .int 0, .ref (qs5 7), .int 0, .int 0, .int 0, .int 0, .int 0])), ((qs5 7), .inr (3, [.ref (qs5 8), .int 0])), ((qs5 8), .inl (cI.1, 24, .inl (fun _ => 0))), ((qs5 9), .inl (cI.1, 24, .inl (fun _ => 0))), (q6, .inr (5, [.ref (qs7 0), .ref (qs7 6), .ref (qs7 9), .int 1, .int 0, .int 0])), ((qs7 0), .inr (1, [.int 0, .int 0, .ref (qs7 1), .ref (qs7 2), .ref (qs7 3), .ref (qs7 4)])), ((qs7 1), .inl (cI.1, 72, .inl (fun _ => (-1)))), ((qs7 2), .inl (cI.1, 4, .inl (fun _ => (-1)))), ((qs7 3), .inl (cI.1, 4, .inl (fun _ => (-1)))), ((qs7 4), .inr (3, [.ref (qs7 5), .int 0])), ((qs7 5), .inl (cI.1, 24, .inl (fun _ => 0))), ((qs7 6), .inr (4, [.int 0, .int 0, .int 0, .ref (qs7 7), .int 0, .int 0, .int 0, .int 0, .int 0])), ((qs7 7), .inr (3, [.ref (qs7 8), .int 0])), ((qs7 8), .inl (cI.1, 24, .inl (fun _ => 0))), ((qs7 9), .inl (cI.1, 24, .inl (fun _ => 0))), (q8, .inr (5, [.ref (qs9 0), .ref (qs9 6), .ref (qs9 9), .int 1, .int 0, .int 0])), ((qs9 0), .inr (1, [.int 0, .int 0, .ref (qs9 1), .ref (qs9 2), .ref (qs9 3), .ref (qs9 4)])), ((qs9 1), .inl (cI.1, 72, .inl (fun _ => (-1)))), ((qs9 2), .inl (cI.1, 4, .inl (fun _ => (-1)))), ((qs9 3), .inl (cI.1, 4, .inl (fun _ => (-1)))), ((qs9 4), .inr (3, [.ref (qs9 5), .int 0])), ((qs9 5), .inl (cI.1, 24, .inl (fun _ => 0))), ((qs9 6), .inr (4, [.int 0, .int 0, .int 0, .ref (qs9 7), .int 0, .int 0, .int 0, .int 0, .int 0])), ((qs9 7), .inr (3, [.ref (qs9 8), .int 0])), ((qs9 8), .inl (cI.1, 24, .inl (fun _ => 0))), ((qs9 9), .inl (cI.1, 24, .inl (fun _ => 0)))]) dX2_init_31 rfl rfl rfl ⟨by decide, by decide⟩ rfl ?_
  refine g_iinc X (i := 1) (v := 1) dX2_init_32 rfl (by decide) (by decide) rfl ?_
  refine g_goto X dX2_init_35 (tgt := 14) (by decide) ?_
  refine g_iload_n X (i := 1) dX2_init_14 rfl rfl ?_
  refine g_iconst X dX2_init_15 (v := 4) (by decide) ?_
  refine g_icmp_gt X dX2_init_16 (tgt := 38) (by decide) (F1 := some ()) (F2 := some ()) (o := ()) (by split <;> rfl) (fun cc4 _ => ?_) (fun cc4 _ => ?_)
  · exact absurd cc4 (by decide)
  refine g_aload_n X (i := 0) dX2_init_19 rfl rfl ?_
  refine g_get X (wf := wI) (q0 := 0) (v := .ref q1) 0 dX2_init_20 gC_X2 rfl rfl (by decide) fl_X2_11 rfl rfl ?_
  refine g_iload_n X (i := 1) dX2_init_23 rfl rfl ?_
  refine g_new X hA (C := RX5) (T := TX5) (ty0 := tyX5) (N := 6) (ci := 5) (fs := [.null, .null, .null, .int 0, .int 0, .int 0]) dX2_init_24 gC_X5 (tb1 153 rfl) (tb1 22 rfl) (tb1 2 rfl) rfl (fun j hj => by rcases (show j = 0 ∨ j = 1 ∨ j = 2 ∨ j = 3 ∨ j = 4 ∨ j = 5 by omega) with rfl | rfl | rfl | rfl | rfl | rfl <;> rfl) ⟨Nat.le_of_ble_eq_true rfl, Nat.le_of_ble_eq_true rfl⟩ (fun q10 => ?_)
  refine g_dup X dX2_init_27 rfl ?_
  refine g_ctorN X hA (c_X5_init (h0 := q10)) dX2_init_28 ml_X2_17 yi_X5 ⟨Nat.le_of_ble_eq_true rfl, Nat.le_of_ble_eq_true rfl⟩ ⟨rfl, rfl⟩ (Nat.le_of_ble_eq_true rfl) ⟨Nat.le_of_ble_eq_true rfl, Nat.le_of_ble_eq_true rfl⟩ (fun qs11 => ?_)
  refine g_astq X (q0 := 1) (qk := 46) (f := va_up (va_up (va_up (va_up (fun _ => none) (0 : Int32).toNatClampNeg (some q2)) (0 + 1 : Int32).toNatClampNeg (some q4)) ((0 + 1) + 1 : Int32).toNatClampNeg (some q6)) (((0 + 1) + 1) + 1 : Int32).toNatClampNeg (some q8)) (w' := [(h0, .inr (2, [.ref q1, .int 0, .int 0])), (q1, .inl (cI.2, 5, .inr (.inr (.inr (.inr (va_up (va_up (va_up (va_up (va_up (fun _ => none) (0 : Int32).toNatClampNeg (some q2)) (0 + 1 : Int32).toNatClampNeg (some q4)) ((0 + 1) + 1 : Int32).toNatClampNeg (some q6)) (((0 + 1) + 1) + 1 : Int32).toNatClampNeg (some q8)) ((((0 + 1) + 1) + 1) + 1 : Int32).toNatClampNeg (some q10))))))), (q2, .inr (5, [.ref (qs3 0), .ref (qs3 6), .ref (qs3 9), .int 1, .int 0, .int 0])), ((qs3 0), .inr (1, [.int 0, .int 0, .ref (qs3 1), .ref (qs3 2), .ref (qs3 3), .ref (qs3 4)])), ((qs3 1), .inl (cI.1, 72, .inl (fun _ => (-1)))), ((qs3 2), .inl (cI.1, 4, .inl (fun _ => (-1)))), ((qs3 3), .inl (cI.1, 4, .inl (fun _ => (-1)))), ((qs3 4), .inr (3, [.ref (qs3 5), .int 0])), ((qs3 5), .inl (cI.1, 24, .inl (fun _ => 0))), ((qs3 6), .inr (4, [.int 0, .int 0, .int 0, .ref (qs3 7), .int 0, .int 0, .int 0, .int 0, .int 0])), ((qs3 7), .inr (3, [.ref (qs3 8), .int 0])), ((qs3 8), .inl (cI.1, 24, .inl (fun _ => 0))), ((qs3 9), .inl (cI.1, 24, .inl (fun _ => 0))), (q4, .inr (5, [.ref (qs5 0), .ref (qs5 6), .ref (qs5 9), .int 1, .int 0, .int 0])), ((qs5 0), .inr (1, [.int 0, .int 0, .ref (qs5 1), .ref (qs5 2), .ref (qs5 3), .ref (qs5 4)])), ((qs5 1), .inl (cI.1, 72, .inl (fun _ => (-1)))), ((qs5 2), .inl (cI.1, 4, .inl (fun _ => (-1)))), ((qs5 3), .inl (cI.1, 4, .inl (fun _ => (-1)))), ((qs5 4), .inr (3, [.ref (qs5 5), .int 0])), ((qs5 5), .inl (cI.1, 24, .inl (fun _ => 0))), ((qs5 6), .inr (4, [.int 0, .int 0, .int 0, .ref (qs5 7), .int 0, .int 0, .int 0, .int 0, .int 0])), ((qs5 7), .inr (3, [.ref (qs5 8), .int 0])), ((qs5 8), .inl (cI.1, 24, .inl (fun _ => 0))), ((qs5 9), .inl (cI.1, 24, .inl (fun _ => 0))), (q6, .inr (5, [.ref (qs7 0), .ref (qs7 6), .ref (qs7 9), .int 1, .int 0, .int 0])), ((qs7 0), .inr (1, [.int 0, .int 0, .ref (qs7 1), .ref (qs7 2), .ref (qs7 3), .ref (qs7 4)])), ((qs7 1), .inl (cI.1, 72, .inl (fun _ => (-1)))), ((qs7 2), .inl (cI.1, 4, .inl (fun _ => (-1)))), ((qs7 3), .inl (cI.1, 4, .inl (fun _ => (-1)))), ((qs7 4), .inr (3, [.ref (qs7 5), .int 0])), ((qs7 5), .inl (cI.1, 24, .inl (fun _ => 0))), ((qs7 6), .inr (4, [.int 0, .int 0, .int 0, .ref (qs7 7), .int 0, .int 0, .int 0, .int 0, .int 0])), ((qs7 7), .inr (3, [.ref (qs7 8), .int 0])), ((qs7 8), .inl (cI.1, 24, .inl (fun _ => 0))), ((qs7 9), .inl (cI.1, 24, .inl (fun _ => 0))), (q8, .inr (5, [.ref (qs9 0), .ref (qs9 6), .ref (qs9 9), .int 1, .int 0, .int 0])), ((qs9 0), .inr (1, [.int 0, .int 0, .ref (qs9 1), .ref (qs9 2), .ref (qs9 3), .ref (qs9 4)])), ((qs9 1), .inl (cI.1, 72, .inl (fun _ => (-1)))), ((qs9 2), .inl (cI.1, 4, .inl (fun _ => (-1)))), ((qs9 3), .inl (cI.1, 4, .inl (fun _ => (-1)))), ((qs9 4), .inr (3, [.ref (qs9 5), .int 0])), ((qs9 5), .inl (cI.1, 24, .inl (fun _ => 0))), ((qs9 6), .inr (4, [.int 0, .int 0, .int 0, .ref (qs9 7), .int 0, .int 0, .int 0, .int 0, .int 0])), ((qs9 7), .inr (3, [.ref (qs9 8), .int 0])), ((qs9 8), .inl (cI.1, 24, .inl (fun _ => 0))), ((qs9 9), .inl (cI.1, 24, .inl (fun _ => 0))), (q10, .inr (5, [.ref (qs11 0), .ref (qs11 6), .ref (qs11 9), .int 1, .int 0, .int 0])), ((qs11 0), .inr (1, [.int 0, .int 0, .ref (qs11 1), .ref (qs11 2), .ref (qs11 3), .ref (qs11 4)])), ((qs11 1), .inl (cI.1, 72, .inl (fun _ => (-1)))), ((qs11 2), .inl (cI.1, 4, .inl (fun _ => (-1)))), ((qs11 3), .inl (cI.1, 4, .inl (fun _ => (-1)))), ((qs11 4), .inr (3, [.ref (qs11 5), .int 0])), ((qs11 5), .inl (cI.1, 24, .inl (fun _ => 0))), ((qs11 6), .inr (4, [.int 0, .int 0, .int 0, .ref (qs11 7), .int 0, .int 0, .int 0, .int 0, .int 0])), ((qs11 7), .inr (3, [.ref (qs11 8), .int 0])), ((qs11 8), .inl (cI.1, 24, .inl (fun _ => 0))), ((qs11 9), .inl (cI.1, 24, .inl (fun _ => 0)))]) dX2_init_31 rfl rfl rfl ⟨by decide, by decide⟩ rfl ?_
  refine g_iinc X (i := 1) (v := 1) dX2_init_32 rfl (by decide) (by decide) rfl ?_
  refine g_goto X dX2_init_35 (tgt := 14) (by decide) ?_
  refine g_iload_n X (i := 1) dX2_init_14 rfl rfl ?_
  refine g_iconst X dX2_init_15 (v := 4) (by decide) ?_
  refine g_icmp_gt X dX2_init_16 (tgt := 38) (by decide) (F1 := some ()) (F2 := some ()) (o := ()) (by split <;> rfl) (fun cc5 _ => ?_) (fun cc5 _ => ?_)
  rotate_left
  · exact absurd (by decide) cc5
  exact g_nret X hr (fun k => ([q1, q2, (qs3 0), (qs3 1), (qs3 2), (qs3 3), (qs3 4), (qs3 5), (qs3 6), (qs3 7), (qs3 8), (qs3 9), q4, (qs5 0), (qs5 1), (qs5 2), (qs5 3), (qs5 4), (qs5 5), (qs5 6), (qs5 7), (qs5 8), (qs5 9), q6, (qs7 0), (qs7 1), (qs7 2), (qs7 3), (qs7 4), (qs7 5), (qs7 6), (qs7 7), (qs7 8), (qs7 9), q8, (qs9 0), (qs9 1), (qs9 2), (qs9 3), (qs9 4), (qs9 5), (qs9 6), (qs9 7), (qs9 8), (qs9 9), q10, (qs11 0), (qs11 1), (qs11 2), (qs11 3), (qs11 4), (qs11 5), (qs11 6), (qs11 7), (qs11 8), (qs11 9)] : List Nat).getD k 0) dX2_init_38 rfl
def F_X6 (cI : ClassId × ClassId) (h0 : Nat) (qs : Nat → Nat) : va_W := [(h0, .inr (6, [.ref (qs 0), .ref (qs 11), .ref (qs 22), .ref (qs 33), .ref (qs 90), .int 0])), ((qs 0), .inr (5, [.ref (qs 1), .ref (qs 7), .ref (qs 10), .int 1, .int 0, .int 0])), ((qs 1), .inr (1, [.int 0, .int 0, .ref (qs 2), .ref (qs 3), .ref (qs 4), .ref (qs 5)])), ((qs 2), .inl (cI.1, 72, .inl (fun _ => (-1)))), ((qs 3), .inl (cI.1, 4, .inl (fun _ => (-1)))), ((qs 4), .inl (cI.1, 4, .inl (fun _ => (-1)))), ((qs 5), .inr (3, [.ref (qs 6), .int 0])), ((qs 6), .inl (cI.1, 24, .inl (fun _ => 0))), ((qs 7), .inr (4, [.int 0, .int 0, .int 0, .ref (qs 8), .int 0, .int 0, .int 0, .int 0, .int 0])), ((qs 8), .inr (3, [.ref (qs 9), .int 0])), ((qs 9), .inl (cI.1, 24, .inl (fun _ => 0))), ((qs 10), .inl (cI.1, 24, .inl (fun _ => 0))), ((qs 11), .inr (5, [.ref (qs 12), .ref (qs 18), .ref (qs 21), .int 1, .int 0, .int 0])), ((qs 12), .inr (1, [.int 0, .int 0, .ref (qs 13), .ref (qs 14), .ref (qs 15), .ref (qs 16)])), ((qs 13), .inl (cI.1, 72, .inl (fun _ => (-1)))), ((qs 14), .inl (cI.1, 4, .inl (fun _ => (-1)))), ((qs 15), .inl (cI.1, 4, .inl (fun _ => (-1)))), ((qs 16), .inr (3, [.ref (qs 17), .int 0])), ((qs 17), .inl (cI.1, 24, .inl (fun _ => 0))), ((qs 18), .inr (4, [.int 0, .int 0, .int 0, .ref (qs 19), .int 0, .int 0, .int 0, .int 0, .int 0])), ((qs 19), .inr (3, [.ref (qs 20), .int 0])), ((qs 20), .inl (cI.1, 24, .inl (fun _ => 0))), ((qs 21), .inl (cI.1, 24, .inl (fun _ => 0))), ((qs 22), .inr (5, [.ref (qs 23), .ref (qs 29), .ref (qs 32), .int 1, .int 0, .int 0])), ((qs 23), .inr (1, [.int 0, .int 0, .ref (qs 24), .ref (qs 25), .ref (qs 26), .ref (qs 27)])), ((qs 24), .inl (cI.1, 72, .inl (fun _ => (-1)))), ((qs 25), .inl (cI.1, 4, .inl (fun _ => (-1)))), ((qs 26), .inl (cI.1, 4, .inl (fun _ => (-1)))), ((qs 27), .inr (3, [.ref (qs 28), .int 0])), ((qs 28), .inl (cI.1, 24, .inl (fun _ => 0))), ((qs 29), .inr (4, [.int 0, .int 0, .int 0, .ref (qs 30), .int 0, .int 0, .int 0, .int 0, .int 0])), ((qs 30), .inr (3, [.ref (qs 31), .int 0])), ((qs 31), .inl (cI.1, 24, .inl (fun _ => 0))), ((qs 32), .inl (cI.1, 24, .inl (fun _ => 0))), ((qs 33), .inr (2, [.ref (qs 34), .int 0, .int 0])), ((qs 34), .inl (cI.2, 5, .inr (.inr (.inr (.inr (va_up (va_up (va_up (va_up (va_up (fun _ => none) (0 : Int32).toNatClampNeg (some (qs 35))) (0 + 1 : Int32).toNatClampNeg (some (qs 46))) ((0 + 1) + 1 : Int32).toNatClampNeg (some (qs 57))) (((0 + 1) + 1) + 1 : Int32).toNatClampNeg (some (qs 68))) ((((0 + 1) + 1) + 1) + 1 : Int32).toNatClampNeg (some (qs 79)))))))), ((qs 35), .inr (5, [.ref (qs 36), .ref (qs 42), .ref (qs 45), .int 1, .int 0, .int 0])), ((qs 36), .inr (1, [.int 0, .int 0, .ref (qs 37), .ref (qs 38), .ref (qs 39), .ref (qs 40)])), ((qs 37), .inl (cI.1, 72, .inl (fun _ => (-1)))), ((qs 38), .inl (cI.1, 4, .inl (fun _ => (-1)))), ((qs 39), .inl (cI.1, 4, .inl (fun _ => (-1)))), ((qs 40), .inr (3, [.ref (qs 41), .int 0])), ((qs 41), .inl (cI.1, 24, .inl (fun _ => 0))), ((qs 42), .inr (4, [.int 0, .int 0, .int 0, .ref (qs 43), .int 0, .int 0, .int 0, .int 0, .int 0])), ((qs 43), .inr (3, [.ref (qs 44), .int 0])), ((qs 44), .inl (cI.1, 24, .inl (fun _ => 0))), ((qs 45), .inl (cI.1, 24, .inl (fun _ => 0))), ((qs 46), .inr (5, [.ref (qs 47), .ref (qs 53), .ref (qs 56), .int 1, .int 0, .int 0])), ((qs 47), .inr (1, [.int 0, .int 0, .ref (qs 48), .ref (qs 49), .ref (qs 50), .ref (qs 51)])), ((qs 48), .inl (cI.1, 72, .inl (fun _ => (-1)))), ((qs 49), .inl (cI.1, 4, .inl (fun _ => (-1)))), ((qs 50), .inl (cI.1, 4, .inl (fun _ => (-1)))), ((qs 51), .inr (3, [.ref (qs 52), .int 0])), ((qs 52), .inl (cI.1, 24, .inl (fun _ => 0))), ((qs 53), .inr (4, [.int 0, .int 0, .int 0, .ref (qs 54), .int 0, .int 0, .int 0, .int 0, .int 0])), ((qs 54), .inr (3, [.ref (qs 55), .int 0])), ((qs 55), .inl (cI.1, 24, .inl (fun _ => 0))), ((qs 56), .inl (cI.1, 24, .inl (fun _ => 0))), ((qs 57), .inr (5, [.ref (qs 58), .ref (qs 64), .ref (qs 67), .int 1, .int 0, .int 0])), ((qs 58), .inr (1, [.int 0, .int 0, .ref (qs 59), .ref (qs 60), .ref (qs 61), .ref (qs 62)])), ((qs 59), .inl (cI.1, 72, .inl (fun _ => (-1)))), ((qs 60), .inl (cI.1, 4, .inl (fun _ => (-1)))), ((qs 61), .inl (cI.1, 4, .inl (fun _ => (-1)))), ((qs 62), .inr (3, [.ref (qs 63), .int 0])), ((qs 63), .inl (cI.1, 24, .inl (fun _ => 0))), ((qs 64), .inr (4, [.int 0, .int 0, .int 0, .ref (qs 65), .int 0, .int 0, .int 0, .int 0, .int 0])), ((qs 65), .inr (3, [.ref (qs 66), .int 0])), ((qs 66), .inl (cI.1, 24, .inl (fun _ => 0))), ((qs 67), .inl (cI.1, 24, .inl (fun _ => 0))), ((qs 68), .inr (5, [.ref (qs 69), .ref (qs 75), .ref (qs 78), .int 1, .int 0, .int 0])), ((qs 69), .inr (1, [.int 0, .int 0, .ref (qs 70), .ref (qs 71), .ref (qs 72), .ref (qs 73)])), ((qs 70), .inl (cI.1, 72, .inl (fun _ => (-1)))), ((qs 71), .inl (cI.1, 4, .inl (fun _ => (-1)))), ((qs 72), .inl (cI.1, 4, .inl (fun _ => (-1)))), ((qs 73), .inr (3, [.ref (qs 74), .int 0])), ((qs 74), .inl (cI.1, 24, .inl (fun _ => 0))), ((qs 75), .inr (4, [.int 0, .int 0, .int 0, .ref (qs 76), .int 0, .int 0, .int 0, .int 0, .int 0])), ((qs 76), .inr (3, [.ref (qs 77), .int 0])), ((qs 77), .inl (cI.1, 24, .inl (fun _ => 0))), ((qs 78), .inl (cI.1, 24, .inl (fun _ => 0))), ((qs 79), .inr (5, [.ref (qs 80), .ref (qs 86), .ref (qs 89), .int 1, .int 0, .int 0])), ((qs 80), .inr (1, [.int 0, .int 0, .ref (qs 81), .ref (qs 82), .ref (qs 83), .ref (qs 84)])), ((qs 81), .inl (cI.1, 72, .inl (fun _ => (-1)))), ((qs 82), .inl (cI.1, 4, .inl (fun _ => (-1)))), ((qs 83), .inl (cI.1, 4, .inl (fun _ => (-1)))), ((qs 84), .inr (3, [.ref (qs 85), .int 0])), ((qs 85), .inl (cI.1, 24, .inl (fun _ => 0))), ((qs 86), .inr (4, [.int 0, .int 0, .int 0, .ref (qs 87), .int 0, .int 0, .int 0, .int 0, .int 0])), ((qs 87), .inr (3, [.ref (qs 88), .int 0])), ((qs 88), .inl (cI.1, 24, .inl (fun _ => 0))), ((qs 89), .inl (cI.1, 24, .inl (fun _ => 0))), ((qs 90), .inr (0, [.ref (qs 91), .int 0, .int 0, .int 0, .int 0, .int 0, .int 0, .int 0, .int 0, .int 0, .int 0])), ((qs 91), .inl (cI.1, 60, .inl (fun _ => 0)))]
abbrev rm_X6_init : Room := { frames := 5, cells := 92, slots := 1495, locals := 101 }
theorem yi_X6 : yI yX6_init cX6_init 1 := ⟨⟨tb1 16 rfl, tb1 1 rfl, tb1 17 rfl⟩, rfl, by decide +kernel, by decide +kernel, by decide +kernel⟩
theorem dX6_init_0 : decode cX6_init 0 = .ok (.aload_n 0, 1) := by decide +kernel
theorem dX6_init_1 : decode cX6_init 1 = .ok (.invokespecial 1, 3) := by decide +kernel
theorem dX6_init_4 : decode cX6_init 4 = .ok (.aload_n 0, 1) := by decide +kernel
theorem dX6_init_5 : decode cX6_init 5 = .ok (.new 7, 3) := by decide +kernel
theorem dX6_init_8 : decode cX6_init 8 = .ok (.dup, 1) := by decide +kernel
theorem dX6_init_9 : decode cX6_init 9 = .ok (.invokespecial 9, 3) := by decide +kernel
theorem dX6_init_12 : decode cX6_init 12 = .ok (.putfield 10, 3) := by decide +kernel
theorem dX6_init_15 : decode cX6_init 15 = .ok (.aload_n 0, 1) := by decide +kernel
theorem dX6_init_16 : decode cX6_init 16 = .ok (.new 7, 3) := by decide +kernel
theorem dX6_init_19 : decode cX6_init 19 = .ok (.dup, 1) := by decide +kernel
theorem dX6_init_20 : decode cX6_init 20 = .ok (.invokespecial 9, 3) := by decide +kernel
theorem dX6_init_23 : decode cX6_init 23 = .ok (.putfield 16, 3) := by decide +kernel
theorem dX6_init_26 : decode cX6_init 26 = .ok (.aload_n 0, 1) := by decide +kernel
theorem dX6_init_27 : decode cX6_init 27 = .ok (.new 7, 3) := by decide +kernel
theorem dX6_init_30 : decode cX6_init 30 = .ok (.dup, 1) := by decide +kernel
theorem dX6_init_31 : decode cX6_init 31 = .ok (.invokespecial 9, 3) := by decide +kernel
theorem dX6_init_34 : decode cX6_init 34 = .ok (.putfield 19, 3) := by decide +kernel
theorem dX6_init_37 : decode cX6_init 37 = .ok (.aload_n 0, 1) := by decide +kernel
theorem dX6_init_38 : decode cX6_init 38 = .ok (.new 22, 3) := by decide +kernel
theorem dX6_init_41 : decode cX6_init 41 = .ok (.dup, 1) := by decide +kernel
theorem dX6_init_42 : decode cX6_init 42 = .ok (.invokespecial 24, 3) := by decide +kernel
theorem dX6_init_45 : decode cX6_init 45 = .ok (.putfield 25, 3) := by decide +kernel
theorem dX6_init_48 : decode cX6_init 48 = .ok (.aload_n 0, 1) := by decide +kernel
theorem dX6_init_49 : decode cX6_init 49 = .ok (.new 29, 3) := by decide +kernel
theorem dX6_init_52 : decode cX6_init 52 = .ok (.dup, 1) := by decide +kernel
theorem dX6_init_53 : decode cX6_init 53 = .ok (.invokespecial 31, 3) := by decide +kernel
theorem dX6_init_56 : decode cX6_init 56 = .ok (.putfield 32, 3) := by decide +kernel
theorem dX6_init_59 : decode cX6_init 59 = .ok (.aload_n 0, 1) := by decide +kernel
theorem dX6_init_60 : decode cX6_init 60 = .ok (.iconst 0, 1) := by decide +kernel
theorem dX6_init_61 : decode cX6_init 61 = .ok (.putfield 36, 3) := by decide +kernel
theorem dX6_init_64 : decode cX6_init 64 = .ok (.return_, 1) := by decide +kernel
set_option maxRecDepth 100000 in
set_option maxHeartbeats 4000000 in
theorem c_X6_init {l : Launch} {D : va_G} {cI : ClassId × ClassId} {h0 : Nat} : CTn l D cI yX6_init cX6_init 1 rm_X6_init 92 1495 h0 (.inr (6, [.null, .null, .null, .null, .null, .int 0])) (F_X6 cI h0) := by
  refine CTn.of (by decide +kernel) rfl (Nat.le_of_ble_eq_true rfl) ?_
  intro p e s m args below meth c A X hr hin hA
  have X : gX p s m args meth c cX6_init 1 RX6 D cI := X
  show G _ _ _ _ _ _ _ _ _ _ _ _ _ _ _ _ _ 0 [some (.ref h0)] [] ([(h0, .inr (6, [.null, .null, .null, .null, .null, .int 0]))] : va_W)
  refine g_aload_n X (i := 0) dX6_init_0 rfl rfl ?_
  refine g_objI X dX6_init_1 ml_X6_1 ⟨Nat.le_of_ble_eq_true rfl, Nat.le_of_ble_eq_true rfl⟩ ?_
  refine g_aload_n X (i := 0) dX6_init_4 rfl rfl ?_
  refine g_new X hA (C := RX5) (T := TX5) (ty0 := tyX5) (N := 6) (ci := 5) (fs := [.null, .null, .null, .int 0, .int 0, .int 0]) dX6_init_5 gC_X5 (tb1 21 rfl) (tb1 22 rfl) (tb1 2 rfl) rfl (fun j hj => by rcases (show j = 0 ∨ j = 1 ∨ j = 2 ∨ j = 3 ∨ j = 4 ∨ j = 5 by omega) with rfl | rfl | rfl | rfl | rfl | rfl <;> rfl) ⟨Nat.le_of_ble_eq_true rfl, Nat.le_of_ble_eq_true rfl⟩ (fun q1 => ?_)
  refine g_dup X dX6_init_8 rfl ?_
  refine g_ctorN X hA (c_X5_init (h0 := q1)) dX6_init_9 ml_X6_9 yi_X5 ⟨Nat.le_of_ble_eq_true rfl, Nat.le_of_ble_eq_true rfl⟩ ⟨rfl, rfl⟩ (Nat.le_of_ble_eq_true rfl) ⟨Nat.le_of_ble_eq_true rfl, Nat.le_of_ble_eq_true rfl⟩ (fun qs2 => ?_)
  refine g_putF X hin (q0 := 0) (w' := [(h0, .inr (6, [.ref q1, .null, .null, .null, .null, .int 0])), (q1, .inr (5, [.ref (qs2 0), .ref (qs2 6), .ref (qs2 9), .int 1, .int 0, .int 0])), ((qs2 0), .inr (1, [.int 0, .int 0, .ref (qs2 1), .ref (qs2 2), .ref (qs2 3), .ref (qs2 4)])), ((qs2 1), .inl (cI.1, 72, .inl (fun _ => (-1)))), ((qs2 2), .inl (cI.1, 4, .inl (fun _ => (-1)))), ((qs2 3), .inl (cI.1, 4, .inl (fun _ => (-1)))), ((qs2 4), .inr (3, [.ref (qs2 5), .int 0])), ((qs2 5), .inl (cI.1, 24, .inl (fun _ => 0))), ((qs2 6), .inr (4, [.int 0, .int 0, .int 0, .ref (qs2 7), .int 0, .int 0, .int 0, .int 0, .int 0])), ((qs2 7), .inr (3, [.ref (qs2 8), .int 0])), ((qs2 8), .inl (cI.1, 24, .inl (fun _ => 0))), ((qs2 9), .inl (cI.1, 24, .inl (fun _ => 0)))]) 0 dX6_init_12 gC_X6 rfl rfl (by decide) fl_X6_10 rfl rfl rfl rfl rfl (Nat.le_of_ble_eq_true rfl) rfl ?_
  refine g_aload_n X (i := 0) dX6_init_15 rfl rfl ?_
  refine g_new X hA (C := RX5) (T := TX5) (ty0 := tyX5) (N := 6) (ci := 5) (fs := [.null, .null, .null, .int 0, .int 0, .int 0]) dX6_init_16 gC_X5 (tb1 21 rfl) (tb1 22 rfl) (tb1 2 rfl) rfl (fun j hj => by rcases (show j = 0 ∨ j = 1 ∨ j = 2 ∨ j = 3 ∨ j = 4 ∨ j = 5 by omega) with rfl | rfl | rfl | rfl | rfl | rfl <;> rfl) ⟨Nat.le_of_ble_eq_true rfl, Nat.le_of_ble_eq_true rfl⟩ (fun q3 => ?_)
  refine g_dup X dX6_init_19 rfl ?_
  refine g_ctorN X hA (c_X5_init (h0 := q3)) dX6_init_20 ml_X6_9 yi_X5 ⟨Nat.le_of_ble_eq_true rfl, Nat.le_of_ble_eq_true rfl⟩ ⟨rfl, rfl⟩ (Nat.le_of_ble_eq_true rfl) ⟨Nat.le_of_ble_eq_true rfl, Nat.le_of_ble_eq_true rfl⟩ (fun qs4 => ?_)
  refine g_putF X hin (q0 := 0) (w' := [(h0, .inr (6, [.ref q1, .ref q3, .null, .null, .null, .int 0])), (q1, .inr (5, [.ref (qs2 0), .ref (qs2 6), .ref (qs2 9), .int 1, .int 0, .int 0])), ((qs2 0), .inr (1, [.int 0, .int 0, .ref (qs2 1), .ref (qs2 2), .ref (qs2 3), .ref (qs2 4)])), ((qs2 1), .inl (cI.1, 72, .inl (fun _ => (-1)))), ((qs2 2), .inl (cI.1, 4, .inl (fun _ => (-1)))), ((qs2 3), .inl (cI.1, 4, .inl (fun _ => (-1)))), ((qs2 4), .inr (3, [.ref (qs2 5), .int 0])), ((qs2 5), .inl (cI.1, 24, .inl (fun _ => 0))), ((qs2 6), .inr (4, [.int 0, .int 0, .int 0, .ref (qs2 7), .int 0, .int 0, .int 0, .int 0, .int 0])), ((qs2 7), .inr (3, [.ref (qs2 8), .int 0])), ((qs2 8), .inl (cI.1, 24, .inl (fun _ => 0))), ((qs2 9), .inl (cI.1, 24, .inl (fun _ => 0))), (q3, .inr (5, [.ref (qs4 0), .ref (qs4 6), .ref (qs4 9), .int 1, .int 0, .int 0])), ((qs4 0), .inr (1, [.int 0, .int 0, .ref (qs4 1), .ref (qs4 2), .ref (qs4 3), .ref (qs4 4)])), ((qs4 1), .inl (cI.1, 72, .inl (fun _ => (-1)))), ((qs4 2), .inl (cI.1, 4, .inl (fun _ => (-1)))), ((qs4 3), .inl (cI.1, 4, .inl (fun _ => (-1)))), ((qs4 4), .inr (3, [.ref (qs4 5), .int 0])), ((qs4 5), .inl (cI.1, 24, .inl (fun _ => 0))), ((qs4 6), .inr (4, [.int 0, .int 0, .int 0, .ref (qs4 7), .int 0, .int 0, .int 0, .int 0, .int 0])), ((qs4 7), .inr (3, [.ref (qs4 8), .int 0])), ((qs4 8), .inl (cI.1, 24, .inl (fun _ => 0))), ((qs4 9), .inl (cI.1, 24, .inl (fun _ => 0)))]) 1 dX6_init_23 gC_X6 rfl rfl (by decide) fl_X6_16 rfl rfl rfl rfl rfl (Nat.le_of_ble_eq_true rfl) rfl ?_
  refine g_aload_n X (i := 0) dX6_init_26 rfl rfl ?_
  refine g_new X hA (C := RX5) (T := TX5) (ty0 := tyX5) (N := 6) (ci := 5) (fs := [.null, .null, .null, .int 0, .int 0, .int 0]) dX6_init_27 gC_X5 (tb1 21 rfl) (tb1 22 rfl) (tb1 2 rfl) rfl (fun j hj => by rcases (show j = 0 ∨ j = 1 ∨ j = 2 ∨ j = 3 ∨ j = 4 ∨ j = 5 by omega) with rfl | rfl | rfl | rfl | rfl | rfl <;> rfl) ⟨Nat.le_of_ble_eq_true rfl, Nat.le_of_ble_eq_true rfl⟩ (fun q5 => ?_)
  refine g_dup X dX6_init_30 rfl ?_
  refine g_ctorN X hA (c_X5_init (h0 := q5)) dX6_init_31 ml_X6_9 yi_X5 ⟨Nat.le_of_ble_eq_true rfl, Nat.le_of_ble_eq_true rfl⟩ ⟨rfl, rfl⟩ (Nat.le_of_ble_eq_true rfl) ⟨Nat.le_of_ble_eq_true rfl, Nat.le_of_ble_eq_true rfl⟩ (fun qs6 => ?_)
  refine g_putF X hin (q0 := 0) (w' := [(h0, .inr (6, [.ref q1, .ref q3, .ref q5, .null, .null, .int 0])), (q1, .inr (5, [.ref (qs2 0), .ref (qs2 6), .ref (qs2 9), .int 1, .int 0, .int 0])), ((qs2 0), .inr (1, [.int 0, .int 0, .ref (qs2 1), .ref (qs2 2), .ref (qs2 3), .ref (qs2 4)])), ((qs2 1), .inl (cI.1, 72, .inl (fun _ => (-1)))), ((qs2 2), .inl (cI.1, 4, .inl (fun _ => (-1)))), ((qs2 3), .inl (cI.1, 4, .inl (fun _ => (-1)))), ((qs2 4), .inr (3, [.ref (qs2 5), .int 0])), ((qs2 5), .inl (cI.1, 24, .inl (fun _ => 0))), ((qs2 6), .inr (4, [.int 0, .int 0, .int 0, .ref (qs2 7), .int 0, .int 0, .int 0, .int 0, .int 0])), ((qs2 7), .inr (3, [.ref (qs2 8), .int 0])), ((qs2 8), .inl (cI.1, 24, .inl (fun _ => 0))), ((qs2 9), .inl (cI.1, 24, .inl (fun _ => 0))), (q3, .inr (5, [.ref (qs4 0), .ref (qs4 6), .ref (qs4 9), .int 1, .int 0, .int 0])), ((qs4 0), .inr (1, [.int 0, .int 0, .ref (qs4 1), .ref (qs4 2), .ref (qs4 3), .ref (qs4 4)])), ((qs4 1), .inl (cI.1, 72, .inl (fun _ => (-1)))), ((qs4 2), .inl (cI.1, 4, .inl (fun _ => (-1)))), ((qs4 3), .inl (cI.1, 4, .inl (fun _ => (-1)))), ((qs4 4), .inr (3, [.ref (qs4 5), .int 0])), ((qs4 5), .inl (cI.1, 24, .inl (fun _ => 0))), ((qs4 6), .inr (4, [.int 0, .int 0, .int 0, .ref (qs4 7), .int 0, .int 0, .int 0, .int 0, .int 0])), ((qs4 7), .inr (3, [.ref (qs4 8), .int 0])), ((qs4 8), .inl (cI.1, 24, .inl (fun _ => 0))), ((qs4 9), .inl (cI.1, 24, .inl (fun _ => 0))), (q5, .inr (5, [.ref (qs6 0), .ref (qs6 6), .ref (qs6 9), .int 1, .int 0, .int 0])), ((qs6 0), .inr (1, [.int 0, .int 0, .ref (qs6 1), .ref (qs6 2), .ref (qs6 3), .ref (qs6 4)])), ((qs6 1), .inl (cI.1, 72, .inl (fun _ => (-1)))), ((qs6 2), .inl (cI.1, 4, .inl (fun _ => (-1)))), ((qs6 3), .inl (cI.1, 4, .inl (fun _ => (-1)))), ((qs6 4), .inr (3, [.ref (qs6 5), .int 0])), ((qs6 5), .inl (cI.1, 24, .inl (fun _ => 0))), ((qs6 6), .inr (4, [.int 0, .int 0, .int 0, .ref (qs6 7), .int 0, .int 0, .int 0, .int 0, .int 0])), ((qs6 7), .inr (3, [.ref (qs6 8), .int 0])), ((qs6 8), .inl (cI.1, 24, .inl (fun _ => 0))), ((qs6 9), .inl (cI.1, 24, .inl (fun _ => 0)))]) 2 dX6_init_34 gC_X6 rfl rfl (by decide) fl_X6_19 rfl rfl rfl rfl rfl (Nat.le_of_ble_eq_true rfl) rfl ?_
  refine g_aload_n X (i := 0) dX6_init_37 rfl rfl ?_
  refine g_new X hA (C := RX2) (T := TX2) (ty0 := tyX2) (N := 3) (ci := 2) (fs := [.null, .int 0, .int 0]) dX6_init_38 gC_X2 (tb1 147 rfl) (tb1 148 rfl) (tb1 7 rfl) rfl (fun j hj => by rcases (show j = 0 ∨ j = 1 ∨ j = 2 by omega) with rfl | rfl | rfl <;> rfl) ⟨Nat.le_of_ble_eq_true rfl, Nat.le_of_ble_eq_true rfl⟩ (fun q7 => ?_)
  refine g_dup X dX6_init_41 rfl ?_
  refine g_ctor X hA (c_X2_init (h0 := q7)) dX6_init_42 ml_X6_24 yi_X2 ⟨Nat.le_of_ble_eq_true rfl, Nat.le_of_ble_eq_true rfl⟩ ⟨rfl, rfl⟩ (Nat.le_of_ble_eq_true rfl) ⟨Nat.le_of_ble_eq_true rfl, Nat.le_of_ble_eq_true rfl⟩ (fun qs8 => ?_)
  refine g_putF X hin (q0 := 0) (w' := [(h0, .inr (6, [.ref q1, .ref q3, .ref q5, .ref q7, .null, .int 0])), (q1, .inr (5, [.ref (qs2 0), .ref (qs2 6), .ref (qs2 9), .int 1, .int 0, .int 0])), ((qs2 0), .inr (1, [.int 0, .int 0, .ref (qs2 1), .ref (qs2 2), .ref (qs2 3), .ref (qs2 4)])), ((qs2 1), .inl (cI.1, 72, .inl (fun _ => (-1)))), ((qs2 2), .inl (cI.1, 4, .inl (fun _ => (-1)))), ((qs2 3), .inl (cI.1, 4, .inl (fun _ => (-1)))), ((qs2 4), .inr (3, [.ref (qs2 5), .int 0])), ((qs2 5), .inl (cI.1, 24, .inl (fun _ => 0))), ((qs2 6), .inr (4, [.int 0, .int 0, .int 0, .ref (qs2 7), .int 0, .int 0, .int 0, .int 0, .int 0])), ((qs2 7), .inr (3, [.ref (qs2 8), .int 0])), ((qs2 8), .inl (cI.1, 24, .inl (fun _ => 0))), ((qs2 9), .inl (cI.1, 24, .inl (fun _ => 0))), (q3, .inr (5, [.ref (qs4 0), .ref (qs4 6), .ref (qs4 9), .int 1, .int 0, .int 0])), ((qs4 0), .inr (1, [.int 0, .int 0, .ref (qs4 1), .ref (qs4 2), .ref (qs4 3), .ref (qs4 4)])), ((qs4 1), .inl (cI.1, 72, .inl (fun _ => (-1)))), ((qs4 2), .inl (cI.1, 4, .inl (fun _ => (-1)))), ((qs4 3), .inl (cI.1, 4, .inl (fun _ => (-1)))), ((qs4 4), .inr (3, [.ref (qs4 5), .int 0])), ((qs4 5), .inl (cI.1, 24, .inl (fun _ => 0))), ((qs4 6), .inr (4, [.int 0, .int 0, .int 0, .ref (qs4 7), .int 0, .int 0, .int 0, .int 0, .int 0])), ((qs4 7), .inr (3, [.ref (qs4 8), .int 0])), ((qs4 8), .inl (cI.1, 24, .inl (fun _ => 0))), ((qs4 9), .inl (cI.1, 24, .inl (fun _ => 0))), (q5, .inr (5, [.ref (qs6 0), .ref (qs6 6), .ref (qs6 9), .int 1, .int 0, .int 0])), ((qs6 0), .inr (1, [.int 0, .int 0, .ref (qs6 1), .ref (qs6 2), .ref (qs6 3), .ref (qs6 4)])), ((qs6 1), .inl (cI.1, 72, .inl (fun _ => (-1)))), ((qs6 2), .inl (cI.1, 4, .inl (fun _ => (-1)))), ((qs6 3), .inl (cI.1, 4, .inl (fun _ => (-1)))), ((qs6 4), .inr (3, [.ref (qs6 5), .int 0])), ((qs6 5), .inl (cI.1, 24, .inl (fun _ => 0))), ((qs6 6), .inr (4, [.int 0, .int 0, .int 0, .ref (qs6 7), .int 0, .int 0, .int 0, .int 0, .int 0])), ((qs6 7), .inr (3, [.ref (qs6 8), .int 0])), ((qs6 8), .inl (cI.1, 24, .inl (fun _ => 0))), ((qs6 9), .inl (cI.1, 24, .inl (fun _ => 0))), (q7, .inr (2, [.ref (qs8 0), .int 0, .int 0])), ((qs8 0), .inl (cI.2, 5, .inr (.inr (.inr (.inr (va_up (va_up (va_up (va_up (va_up (fun _ => none) (0 : Int32).toNatClampNeg (some (qs8 1))) (0 + 1 : Int32).toNatClampNeg (some (qs8 12))) ((0 + 1) + 1 : Int32).toNatClampNeg (some (qs8 23))) (((0 + 1) + 1) + 1 : Int32).toNatClampNeg (some (qs8 34))) ((((0 + 1) + 1) + 1) + 1 : Int32).toNatClampNeg (some (qs8 45)))))))), ((qs8 1), .inr (5, [.ref (qs8 2), .ref (qs8 8), .ref (qs8 11), .int 1, .int 0, .int 0])), ((qs8 2), .inr (1, [.int 0, .int 0, .ref (qs8 3), .ref (qs8 4), .ref (qs8 5), .ref (qs8 6)])), ((qs8 3), .inl (cI.1, 72, .inl (fun _ => (-1)))), ((qs8 4), .inl (cI.1, 4, .inl (fun _ => (-1)))), ((qs8 5), .inl (cI.1, 4, .inl (fun _ => (-1)))), ((qs8 6), .inr (3, [.ref (qs8 7), .int 0])), ((qs8 7), .inl (cI.1, 24, .inl (fun _ => 0))), ((qs8 8), .inr (4, [.int 0, .int 0, .int 0, .ref (qs8 9), .int 0, .int 0, .int 0, .int 0, .int 0])), ((qs8 9), .inr (3, [.ref (qs8 10), .int 0])), ((qs8 10), .inl (cI.1, 24, .inl (fun _ => 0))), ((qs8 11), .inl (cI.1, 24, .inl (fun _ => 0))), ((qs8 12), .inr (5, [.ref (qs8 13), .ref (qs8 19), .ref (qs8 22), .int 1, .int 0, .int 0])), ((qs8 13), .inr (1, [.int 0, .int 0, .ref (qs8 14), .ref (qs8 15), .ref (qs8 16), .ref (qs8 17)])), ((qs8 14), .inl (cI.1, 72, .inl (fun _ => (-1)))), ((qs8 15), .inl (cI.1, 4, .inl (fun _ => (-1)))), ((qs8 16), .inl (cI.1, 4, .inl (fun _ => (-1)))), ((qs8 17), .inr (3, [.ref (qs8 18), .int 0])), ((qs8 18), .inl (cI.1, 24, .inl (fun _ => 0))), ((qs8 19), .inr (4, [.int 0, .int 0, .int 0, .ref (qs8 20), .int 0, .int 0, .int 0, .int 0, .int 0])), ((qs8 20), .inr (3, [.ref (qs8 21), .int 0])), ((qs8 21), .inl (cI.1, 24, .inl (fun _ => 0))), ((qs8 22), .inl (cI.1, 24, .inl (fun _ => 0))), ((qs8 23), .inr (5, [.ref (qs8 24), .ref (qs8 30), .ref (qs8 33), .int 1, .int 0, .int 0])), ((qs8 24), .inr (1, [.int 0, .int 0, .ref (qs8 25), .ref (qs8 26), .ref (qs8 27), .ref (qs8 28)])), ((qs8 25), .inl (cI.1, 72, .inl (fun _ => (-1)))), ((qs8 26), .inl (cI.1, 4, .inl (fun _ => (-1)))), ((qs8 27), .inl (cI.1, 4, .inl (fun _ => (-1)))), ((qs8 28), .inr (3, [.ref (qs8 29), .int 0])), ((qs8 29), .inl (cI.1, 24, .inl (fun _ => 0))), ((qs8 30), .inr (4, [.int 0, .int 0, .int 0, .ref (qs8 31), .int 0, .int 0, .int 0, .int 0, .int 0])), ((qs8 31), .inr (3, [.ref (qs8 32), .int 0])), ((qs8 32), .inl (cI.1, 24, .inl (fun _ => 0))), ((qs8 33), .inl (cI.1, 24, .inl (fun _ => 0))), ((qs8 34), .inr (5, [.ref (qs8 35), .ref (qs8 41), .ref (qs8 44), .int 1, .int 0, .int 0])), ((qs8 35), .inr (1, [.int 0, .int 0, .ref (qs8 36), .ref (qs8 37), .ref (qs8 38), .ref (qs8 39)])), ((qs8 36), .inl (cI.1, 72, .inl (fun _ => (-1)))), ((qs8 37), .inl (cI.1, 4, .inl (fun _ => (-1)))), ((qs8 38), .inl (cI.1, 4, .inl (fun _ => (-1)))), ((qs8 39), .inr (3, [.ref (qs8 40), .int 0])), ((qs8 40), .inl (cI.1, 24, .inl (fun _ => 0))), ((qs8 41), .inr (4, [.int 0, .int 0, .int 0, .ref (qs8 42), .int 0, .int 0, .int 0, .int 0, .int 0])), ((qs8 42), .inr (3, [.ref (qs8 43), .int 0])), ((qs8 43), .inl (cI.1, 24, .inl (fun _ => 0))), ((qs8 44), .inl (cI.1, 24, .inl (fun _ => 0))), ((qs8 45), .inr (5, [.ref (qs8 46), .ref (qs8 52), .ref (qs8 55), .int 1, .int 0, .int 0])), ((qs8 46), .inr (1, [.int 0, .int 0, .ref (qs8 47), .ref (qs8 48), .ref (qs8 49), .ref (qs8 50)])), ((qs8 47), .inl (cI.1, 72, .inl (fun _ => (-1)))), ((qs8 48), .inl (cI.1, 4, .inl (fun _ => (-1)))), ((qs8 49), .inl (cI.1, 4, .inl (fun _ => (-1)))), ((qs8 50), .inr (3, [.ref (qs8 51), .int 0])), ((qs8 51), .inl (cI.1, 24, .inl (fun _ => 0))), ((qs8 52), .inr (4, [.int 0, .int 0, .int 0, .ref (qs8 53), .int 0, .int 0, .int 0, .int 0, .int 0])), ((qs8 53), .inr (3, [.ref (qs8 54), .int 0])), ((qs8 54), .inl (cI.1, 24, .inl (fun _ => 0))), ((qs8 55), .inl (cI.1, 24, .inl (fun _ => 0)))]) 3 dX6_init_45 gC_X6 rfl rfl (by decide) fl_X6_25 rfl rfl rfl rfl rfl (Nat.le_of_ble_eq_true rfl) rfl ?_
  refine g_aload_n X (i := 0) dX6_init_48 rfl rfl ?_
  refine g_new X hA (C := RX0) (T := TX0) (ty0 := tyX0) (N := 11) (ci := 0) (fs := [.null, .int 0, .int 0, .int 0, .int 0, .int 0, .int 0, .int 0, .int 0, .int 0, .int 0]) dX6_init_49 gC_X0 (tb1 167 rfl) (tb1 168 rfl) (tb1 8 rfl) rfl (fun j hj => by rcases (show j = 0 ∨ j = 1 ∨ j = 2 ∨ j = 3 ∨ j = 4 ∨ j = 5 ∨ j = 6 ∨ j = 7 ∨ j = 8 ∨ j = 9 ∨ j = 10 by omega) with rfl | rfl | rfl | rfl | rfl | rfl | rfl | rfl | rfl | rfl | rfl <;> rfl) ⟨Nat.le_of_ble_eq_true rfl, Nat.le_of_ble_eq_true rfl⟩ (fun q9 => ?_)
  refine g_dup X dX6_init_52 rfl ?_
  refine g_ctorN X hA (c_X0_init (h0 := q9)) dX6_init_53 ml_X6_31 yi_X0 ⟨Nat.le_of_ble_eq_true rfl, Nat.le_of_ble_eq_true rfl⟩ ⟨rfl, rfl⟩ (Nat.le_of_ble_eq_true rfl) ⟨Nat.le_of_ble_eq_true rfl, Nat.le_of_ble_eq_true rfl⟩ (fun qs10 => ?_)
  refine g_putF X hin (q0 := 0) (w' := [(h0, .inr (6, [.ref q1, .ref q3, .ref q5, .ref q7, .ref q9, .int 0])), (q1, .inr (5, [.ref (qs2 0), .ref (qs2 6), .ref (qs2 9), .int 1, .int 0, .int 0])), ((qs2 0), .inr (1, [.int 0, .int 0, .ref (qs2 1), .ref (qs2 2), .ref (qs2 3), .ref (qs2 4)])), ((qs2 1), .inl (cI.1, 72, .inl (fun _ => (-1)))), ((qs2 2), .inl (cI.1, 4, .inl (fun _ => (-1)))), ((qs2 3), .inl (cI.1, 4, .inl (fun _ => (-1)))), ((qs2 4), .inr (3, [.ref (qs2 5), .int 0])), ((qs2 5), .inl (cI.1, 24, .inl (fun _ => 0))), ((qs2 6), .inr (4, [.int 0, .int 0, .int 0, .ref (qs2 7), .int 0, .int 0, .int 0, .int 0, .int 0])), ((qs2 7), .inr (3, [.ref (qs2 8), .int 0])), ((qs2 8), .inl (cI.1, 24, .inl (fun _ => 0))), ((qs2 9), .inl (cI.1, 24, .inl (fun _ => 0))), (q3, .inr (5, [.ref (qs4 0), .ref (qs4 6), .ref (qs4 9), .int 1, .int 0, .int 0])), ((qs4 0), .inr (1, [.int 0, .int 0, .ref (qs4 1), .ref (qs4 2), .ref (qs4 3), .ref (qs4 4)])), ((qs4 1), .inl (cI.1, 72, .inl (fun _ => (-1)))), ((qs4 2), .inl (cI.1, 4, .inl (fun _ => (-1)))), ((qs4 3), .inl (cI.1, 4, .inl (fun _ => (-1)))), ((qs4 4), .inr (3, [.ref (qs4 5), .int 0])), ((qs4 5), .inl (cI.1, 24, .inl (fun _ => 0))), ((qs4 6), .inr (4, [.int 0, .int 0, .int 0, .ref (qs4 7), .int 0, .int 0, .int 0, .int 0, .int 0])), ((qs4 7), .inr (3, [.ref (qs4 8), .int 0])), ((qs4 8), .inl (cI.1, 24, .inl (fun _ => 0))), ((qs4 9), .inl (cI.1, 24, .inl (fun _ => 0))), (q5, .inr (5, [.ref (qs6 0), .ref (qs6 6), .ref (qs6 9), .int 1, .int 0, .int 0])), ((qs6 0), .inr (1, [.int 0, .int 0, .ref (qs6 1), .ref (qs6 2), .ref (qs6 3), .ref (qs6 4)])), ((qs6 1), .inl (cI.1, 72, .inl (fun _ => (-1)))), ((qs6 2), .inl (cI.1, 4, .inl (fun _ => (-1)))), ((qs6 3), .inl (cI.1, 4, .inl (fun _ => (-1)))), ((qs6 4), .inr (3, [.ref (qs6 5), .int 0])), ((qs6 5), .inl (cI.1, 24, .inl (fun _ => 0))), ((qs6 6), .inr (4, [.int 0, .int 0, .int 0, .ref (qs6 7), .int 0, .int 0, .int 0, .int 0, .int 0])), ((qs6 7), .inr (3, [.ref (qs6 8), .int 0])), ((qs6 8), .inl (cI.1, 24, .inl (fun _ => 0))), ((qs6 9), .inl (cI.1, 24, .inl (fun _ => 0))), (q7, .inr (2, [.ref (qs8 0), .int 0, .int 0])), ((qs8 0), .inl (cI.2, 5, .inr (.inr (.inr (.inr (va_up (va_up (va_up (va_up (va_up (fun _ => none) (0 : Int32).toNatClampNeg (some (qs8 1))) (0 + 1 : Int32).toNatClampNeg (some (qs8 12))) ((0 + 1) + 1 : Int32).toNatClampNeg (some (qs8 23))) (((0 + 1) + 1) + 1 : Int32).toNatClampNeg (some (qs8 34))) ((((0 + 1) + 1) + 1) + 1 : Int32).toNatClampNeg (some (qs8 45)))))))), ((qs8 1), .inr (5, [.ref (qs8 2), .ref (qs8 8), .ref (qs8 11), .int 1, .int 0, .int 0])), ((qs8 2), .inr (1, [.int 0, .int 0, .ref (qs8 3), .ref (qs8 4), .ref (qs8 5), .ref (qs8 6)])), ((qs8 3), .inl (cI.1, 72, .inl (fun _ => (-1)))), ((qs8 4), .inl (cI.1, 4, .inl (fun _ => (-1)))), ((qs8 5), .inl (cI.1, 4, .inl (fun _ => (-1)))), ((qs8 6), .inr (3, [.ref (qs8 7), .int 0])), ((qs8 7), .inl (cI.1, 24, .inl (fun _ => 0))), ((qs8 8), .inr (4, [.int 0, .int 0, .int 0, .ref (qs8 9), .int 0, .int 0, .int 0, .int 0, .int 0])), ((qs8 9), .inr (3, [.ref (qs8 10), .int 0])), ((qs8 10), .inl (cI.1, 24, .inl (fun _ => 0))), ((qs8 11), .inl (cI.1, 24, .inl (fun _ => 0))), ((qs8 12), .inr (5, [.ref (qs8 13), .ref (qs8 19), .ref (qs8 22), .int 1, .int 0, .int 0])), ((qs8 13), .inr (1, [.int 0, .int 0, .ref (qs8 14), .ref (qs8 15), .ref (qs8 16), .ref (qs8 17)])), ((qs8 14), .inl (cI.1, 72, .inl (fun _ => (-1)))), ((qs8 15), .inl (cI.1, 4, .inl (fun _ => (-1)))), ((qs8 16), .inl (cI.1, 4, .inl (fun _ => (-1)))), ((qs8 17), .inr (3, [.ref (qs8 18), .int 0])), ((qs8 18), .inl (cI.1, 24, .inl (fun _ => 0))), ((qs8 19), .inr (4, [.int 0, .int 0, .int 0, .ref (qs8 20), .int 0, .int 0, .int 0, .int 0, .int 0])), ((qs8 20), .inr (3, [.ref (qs8 21), .int 0])), ((qs8 21), .inl (cI.1, 24, .inl (fun _ => 0))), ((qs8 22), .inl (cI.1, 24, .inl (fun _ => 0))), ((qs8 23), .inr (5, [.ref (qs8 24), .ref (qs8 30), .ref (qs8 33), .int 1, .int 0, .int 0])), ((qs8 24), .inr (1, [.int 0, .int 0, .ref (qs8 25), .ref (qs8 26), .ref (qs8 27), .ref (qs8 28)])), ((qs8 25), .inl (cI.1, 72, .inl (fun _ => (-1)))), ((qs8 26), .inl (cI.1, 4, .inl (fun _ => (-1)))), ((qs8 27), .inl (cI.1, 4, .inl (fun _ => (-1)))), ((qs8 28), .inr (3, [.ref (qs8 29), .int 0])), ((qs8 29), .inl (cI.1, 24, .inl (fun _ => 0))), ((qs8 30), .inr (4, [.int 0, .int 0, .int 0, .ref (qs8 31), .int 0, .int 0, .int 0, .int 0, .int 0])), ((qs8 31), .inr (3, [.ref (qs8 32), .int 0])), ((qs8 32), .inl (cI.1, 24, .inl (fun _ => 0))), ((qs8 33), .inl (cI.1, 24, .inl (fun _ => 0))), ((qs8 34), .inr (5, [.ref (qs8 35), .ref (qs8 41), .ref (qs8 44), .int 1, .int 0, .int 0])), ((qs8 35), .inr (1, [.int 0, .int 0, .ref (qs8 36), .ref (qs8 37), .ref (qs8 38), .ref (qs8 39)])), ((qs8 36), .inl (cI.1, 72, .inl (fun _ => (-1)))), ((qs8 37), .inl (cI.1, 4, .inl (fun _ => (-1)))), ((qs8 38), .inl (cI.1, 4, .inl (fun _ => (-1)))), ((qs8 39), .inr (3, [.ref (qs8 40), .int 0])), ((qs8 40), .inl (cI.1, 24, .inl (fun _ => 0))), ((qs8 41), .inr (4, [.int 0, .int 0, .int 0, .ref (qs8 42), .int 0, .int 0, .int 0, .int 0, .int 0])), ((qs8 42), .inr (3, [.ref (qs8 43), .int 0])), ((qs8 43), .inl (cI.1, 24, .inl (fun _ => 0))), ((qs8 44), .inl (cI.1, 24, .inl (fun _ => 0))), ((qs8 45), .inr (5, [.ref (qs8 46), .ref (qs8 52), .ref (qs8 55), .int 1, .int 0, .int 0])), ((qs8 46), .inr (1, [.int 0, .int 0, .ref (qs8 47), .ref (qs8 48), .ref (qs8 49), .ref (qs8 50)])), ((qs8 47), .inl (cI.1, 72, .inl (fun _ => (-1)))), ((qs8 48), .inl (cI.1, 4, .inl (fun _ => (-1)))), ((qs8 49), .inl (cI.1, 4, .inl (fun _ => (-1)))), ((qs8 50), .inr (3, [.ref (qs8 51), .int 0])), ((qs8 51), .inl (cI.1, 24, .inl (fun _ => 0))), ((qs8 52), .inr (4, [.int 0, .int 0, .int 0, .ref (qs8 53), .int 0, .int 0, .int 0, .int 0, .int 0])), ((qs8 53), .inr (3, [.ref (qs8 54), .int 0])), ((qs8 54), .inl (cI.1, 24, .inl (fun _ => 0))), ((qs8 55), .inl (cI.1, 24, .inl (fun _ => 0))), (q9, .inr (0, [.ref (qs10 0), .int 0, .int 0, .int 0, .int 0, .int 0, .int 0, .int 0, .int 0, .int 0, .int 0])), ((qs10 0), .inl (cI.1, 60, .inl (fun _ => 0)))]) 4 dX6_init_56 gC_X6 rfl rfl (by decide) fl_X6_32 rfl rfl rfl rfl rfl (Nat.le_of_ble_eq_true rfl) rfl ?_
  refine g_aload_n X (i := 0) dX6_init_59 rfl rfl ?_
  refine g_iconst X dX6_init_60 (v := 0) (by decide) ?_
  refine g_put X (wf := wI) (q0 := 0) (w' := [(h0, .inr (6, [.ref q1, .ref q3, .ref q5, .ref q7, .ref q9, .int 0])), (q1, .inr (5, [.ref (qs2 0), .ref (qs2 6), .ref (qs2 9), .int 1, .int 0, .int 0])), ((qs2 0), .inr (1, [.int 0, .int 0, .ref (qs2 1), .ref (qs2 2), .ref (qs2 3), .ref (qs2 4)])), ((qs2 1), .inl (cI.1, 72, .inl (fun _ => (-1)))), ((qs2 2), .inl (cI.1, 4, .inl (fun _ => (-1)))), ((qs2 3), .inl (cI.1, 4, .inl (fun _ => (-1)))), ((qs2 4), .inr (3, [.ref (qs2 5), .int 0])), ((qs2 5), .inl (cI.1, 24, .inl (fun _ => 0))), ((qs2 6), .inr (4, [.int 0, .int 0, .int 0, .ref (qs2 7), .int 0, .int 0, .int 0, .int 0, .int 0])), ((qs2 7), .inr (3, [.ref (qs2 8), .int 0])), ((qs2 8), .inl (cI.1, 24, .inl (fun _ => 0))), ((qs2 9), .inl (cI.1, 24, .inl (fun _ => 0))), (q3, .inr (5, [.ref (qs4 0), .ref (qs4 6), .ref (qs4 9), .int 1, .int 0, .int 0])), ((qs4 0), .inr (1, [.int 0, .int 0, .ref (qs4 1), .ref (qs4 2), .ref (qs4 3), .ref (qs4 4)])), ((qs4 1), .inl (cI.1, 72, .inl (fun _ => (-1)))), ((qs4 2), .inl (cI.1, 4, .inl (fun _ => (-1)))), ((qs4 3), .inl (cI.1, 4, .inl (fun _ => (-1)))), ((qs4 4), .inr (3, [.ref (qs4 5), .int 0])), ((qs4 5), .inl (cI.1, 24, .inl (fun _ => 0))), ((qs4 6), .inr (4, [.int 0, .int 0, .int 0, .ref (qs4 7), .int 0, .int 0, .int 0, .int 0, .int 0])), ((qs4 7), .inr (3, [.ref (qs4 8), .int 0])), ((qs4 8), .inl (cI.1, 24, .inl (fun _ => 0))), ((qs4 9), .inl (cI.1, 24, .inl (fun _ => 0))), (q5, .inr (5, [.ref (qs6 0), .ref (qs6 6), .ref (qs6 9), .int 1, .int 0, .int 0])), ((qs6 0), .inr (1, [.int 0, .int 0, .ref (qs6 1), .ref (qs6 2), .ref (qs6 3), .ref (qs6 4)])), ((qs6 1), .inl (cI.1, 72, .inl (fun _ => (-1)))), ((qs6 2), .inl (cI.1, 4, .inl (fun _ => (-1)))), ((qs6 3), .inl (cI.1, 4, .inl (fun _ => (-1)))), ((qs6 4), .inr (3, [.ref (qs6 5), .int 0])), ((qs6 5), .inl (cI.1, 24, .inl (fun _ => 0))), ((qs6 6), .inr (4, [.int 0, .int 0, .int 0, .ref (qs6 7), .int 0, .int 0, .int 0, .int 0, .int 0])), ((qs6 7), .inr (3, [.ref (qs6 8), .int 0])), ((qs6 8), .inl (cI.1, 24, .inl (fun _ => 0))), ((qs6 9), .inl (cI.1, 24, .inl (fun _ => 0))), (q7, .inr (2, [.ref (qs8 0), .int 0, .int 0])), ((qs8 0), .inl (cI.2, 5, .inr (.inr (.inr (.inr (va_up (va_up (va_up (va_up (va_up (fun _ => none) (0 : Int32).toNatClampNeg (some (qs8 1))) (0 + 1 : Int32).toNatClampNeg (some (qs8 12))) ((0 + 1) + 1 : Int32).toNatClampNeg (some (qs8 23))) (((0 + 1) + 1) + 1 : Int32).toNatClampNeg (some (qs8 34))) ((((0 + 1) + 1) + 1) + 1 : Int32).toNatClampNeg (some (qs8 45)))))))), ((qs8 1), .inr (5, [.ref (qs8 2), .ref (qs8 8), .ref (qs8 11), .int 1, .int 0, .int 0])), ((qs8 2), .inr (1, [.int 0, .int 0, .ref (qs8 3), .ref (qs8 4), .ref (qs8 5), .ref (qs8 6)])), ((qs8 3), .inl (cI.1, 72, .inl (fun _ => (-1)))), ((qs8 4), .inl (cI.1, 4, .inl (fun _ => (-1)))), ((qs8 5), .inl (cI.1, 4, .inl (fun _ => (-1)))), ((qs8 6), .inr (3, [.ref (qs8 7), .int 0])), ((qs8 7), .inl (cI.1, 24, .inl (fun _ => 0))), ((qs8 8), .inr (4, [.int 0, .int 0, .int 0, .ref (qs8 9), .int 0, .int 0, .int 0, .int 0, .int 0])), ((qs8 9), .inr (3, [.ref (qs8 10), .int 0])), ((qs8 10), .inl (cI.1, 24, .inl (fun _ => 0))), ((qs8 11), .inl (cI.1, 24, .inl (fun _ => 0))), ((qs8 12), .inr (5, [.ref (qs8 13), .ref (qs8 19), .ref (qs8 22), .int 1, .int 0, .int 0])), ((qs8 13), .inr (1, [.int 0, .int 0, .ref (qs8 14), .ref (qs8 15), .ref (qs8 16), .ref (qs8 17)])), ((qs8 14), .inl (cI.1, 72, .inl (fun _ => (-1)))), ((qs8 15), .inl (cI.1, 4, .inl (fun _ => (-1)))), ((qs8 16), .inl (cI.1, 4, .inl (fun _ => (-1)))), ((qs8 17), .inr (3, [.ref (qs8 18), .int 0])), ((qs8 18), .inl (cI.1, 24, .inl (fun _ => 0))), ((qs8 19), .inr (4, [.int 0, .int 0, .int 0, .ref (qs8 20), .int 0, .int 0, .int 0, .int 0, .int 0])), ((qs8 20), .inr (3, [.ref (qs8 21), .int 0])), ((qs8 21), .inl (cI.1, 24, .inl (fun _ => 0))), ((qs8 22), .inl (cI.1, 24, .inl (fun _ => 0))), ((qs8 23), .inr (5, [.ref (qs8 24), .ref (qs8 30), .ref (qs8 33), .int 1, .int 0, .int 0])), ((qs8 24), .inr (1, [.int 0, .int 0, .ref (qs8 25), .ref (qs8 26), .ref (qs8 27), .ref (qs8 28)])), ((qs8 25), .inl (cI.1, 72, .inl (fun _ => (-1)))), ((qs8 26), .inl (cI.1, 4, .inl (fun _ => (-1)))), ((qs8 27), .inl (cI.1, 4, .inl (fun _ => (-1)))), ((qs8 28), .inr (3, [.ref (qs8 29), .int 0])), ((qs8 29), .inl (cI.1, 24, .inl (fun _ => 0))), ((qs8 30), .inr (4, [.int 0, .int 0, .int 0, .ref (qs8 31), .int 0, .int 0, .int 0, .int 0, .int 0])), ((qs8 31), .inr (3, [.ref (qs8 32), .int 0])), ((qs8 32), .inl (cI.1, 24, .inl (fun _ => 0))), ((qs8 33), .inl (cI.1, 24, .inl (fun _ => 0))), ((qs8 34), .inr (5, [.ref (qs8 35), .ref (qs8 41), .ref (qs8 44), .int 1, .int 0, .int 0])), ((qs8 35), .inr (1, [.int 0, .int 0, .ref (qs8 36), .ref (qs8 37), .ref (qs8 38), .ref (qs8 39)])), ((qs8 36), .inl (cI.1, 72, .inl (fun _ => (-1)))), ((qs8 37), .inl (cI.1, 4, .inl (fun _ => (-1)))), ((qs8 38), .inl (cI.1, 4, .inl (fun _ => (-1)))), ((qs8 39), .inr (3, [.ref (qs8 40), .int 0])), ((qs8 40), .inl (cI.1, 24, .inl (fun _ => 0))), ((qs8 41), .inr (4, [.int 0, .int 0, .int 0, .ref (qs8 42), .int 0, .int 0, .int 0, .int 0, .int 0])), ((qs8 42), .inr (3, [.ref (qs8 43), .int 0])), ((qs8 43), .inl (cI.1, 24, .inl (fun _ => 0))), ((qs8 44), .inl (cI.1, 24, .inl (fun _ => 0))), ((qs8 45), .inr (5, [.ref (qs8 46), .ref (qs8 52), .ref (qs8 55), .int 1, .int 0, .int 0])), ((qs8 46), .inr (1, [.int 0, .int 0, .ref (qs8 47), .ref (qs8 48), .ref (qs8 49), .ref (qs8 50)])), ((qs8 47), .inl (cI.1, 72, .inl (fun _ => (-1)))), ((qs8 48), .inl (cI.1, 4, .inl (fun _ => (-1)))), ((qs8 49), .inl (cI.1, 4, .inl (fun _ => (-1)))), ((qs8 50), .inr (3, [.ref (qs8 51), .int 0])), ((qs8 51), .inl (cI.1, 24, .inl (fun _ => 0))), ((qs8 52), .inr (4, [.int 0, .int 0, .int 0, .ref (qs8 53), .int 0, .int 0, .int 0, .int 0, .int 0])), ((qs8 53), .inr (3, [.ref (qs8 54), .int 0])), ((qs8 54), .inl (cI.1, 24, .inl (fun _ => 0))), ((qs8 55), .inl (cI.1, 24, .inl (fun _ => 0))), (q9, .inr (0, [.ref (qs10 0), .int 0, .int 0, .int 0, .int 0, .int 0, .int 0, .int 0, .int 0, .int 0, .int 0])), ((qs10 0), .inl (cI.1, 60, .inl (fun _ => 0)))]) 5 dX6_init_61 gC_X6 rfl rfl (by decide) fl_X6_36 rfl rfl rfl rfl (Nat.le_of_ble_eq_true rfl) rfl ?_
  exact g_nret X hr (fun k => ([q1, (qs2 0), (qs2 1), (qs2 2), (qs2 3), (qs2 4), (qs2 5), (qs2 6), (qs2 7), (qs2 8), (qs2 9), q3, (qs4 0), (qs4 1), (qs4 2), (qs4 3), (qs4 4), (qs4 5), (qs4 6), (qs4 7), (qs4 8), (qs4 9), q5, (qs6 0), (qs6 1), (qs6 2), (qs6 3), (qs6 4), (qs6 5), (qs6 6), (qs6 7), (qs6 8), (qs6 9), q7, (qs8 0), (qs8 1), (qs8 2), (qs8 3), (qs8 4), (qs8 5), (qs8 6), (qs8 7), (qs8 8), (qs8 9), (qs8 10), (qs8 11), (qs8 12), (qs8 13), (qs8 14), (qs8 15), (qs8 16), (qs8 17), (qs8 18), (qs8 19), (qs8 20), (qs8 21), (qs8 22), (qs8 23), (qs8 24), (qs8 25), (qs8 26), (qs8 27), (qs8 28), (qs8 29), (qs8 30), (qs8 31), (qs8 32), (qs8 33), (qs8 34), (qs8 35), (qs8 36), (qs8 37), (qs8 38), (qs8 39), (qs8 40), (qs8 41), (qs8 42), (qs8 43), (qs8 44), (qs8 45), (qs8 46), (qs8 47), (qs8 48), (qs8 49), (qs8 50), (qs8 51), (qs8 52), (qs8 53), (qs8 54), (qs8 55), q9, (qs10 0)] : List Nat).getD k 0) dX6_init_64 rfl
def s0M : Nat → Int32 := fun k => if 218 ≤ k ∧ k < 226 then -1 else if k = 234 then 1 else 0
set_option maxRecDepth 100000 in
theorem s0M_eq : ∀ k, k < 235 → (upd (upd (upd (upd (upd (upd (upd (upd (upd (fun _ => 0) (218 + 0 : Int32).toNatClampNeg (-1)) (218 + (0 + 1) : Int32).toNatClampNeg (-1)) (218 + ((0 + 1) + 1) : Int32).toNatClampNeg (-1)) (218 + (((0 + 1) + 1) + 1) : Int32).toNatClampNeg (-1)) (218 + ((((0 + 1) + 1) + 1) + 1) : Int32).toNatClampNeg (-1)) (218 + (((((0 + 1) + 1) + 1) + 1) + 1) : Int32).toNatClampNeg (-1)) (218 + ((((((0 + 1) + 1) + 1) + 1) + 1) + 1) : Int32).toNatClampNeg (-1)) (218 + (((((((0 + 1) + 1) + 1) + 1) + 1) + 1) + 1) : Int32).toNatClampNeg (-1)) (234 : Int32).toNatClampNeg 1) k = s0M k := by decide +kernel
def F_X7 (cI : ClassId × ClassId) (h0 : Nat) (qs : Nat → Nat) : va_W := [(h0, .inr (7, [.ref (qs 0), .ref (qs 1), .ref (qs 2), .ref (qs 3), .ref (qs 4), .int 0, .int 0, .int 0, .ref (qs 5), .int 0, .int 0, .int 0, .int 0, .int 0, .ref (qs 6)])), ((qs 0), .inl (cI.1, 235, .inl (s0M))), ((qs 1), .inl (cI.1, 940, .inl (fun _ => 0))), ((qs 2), .inl (cI.1, 235, .inl (fun _ => 0))), ((qs 3), .inl (cI.1, 235, .inl (fun _ => 0))), ((qs 4), .inl (cI.1, 235, .inl (fun _ => 0))), ((qs 5), .inl (cI.1, 60, .inl (fun _ => 0))), ((qs 6), .inl (cI.1, 3, .inl (fun _ => 0)))]
abbrev rm_X7_init : Room := { frames := 1, cells := 7, slots := 1943, locals := 20 }
theorem yi_X7 : yI yX7_init cX7_init 2 := ⟨⟨tb3 205 rfl, tb1 9 rfl, tb3 206 rfl⟩, rfl, by decide +kernel, by decide +kernel, by decide +kernel⟩
theorem dX7_init_0 : decode cX7_init 0 = .ok (.aload_n 0, 1) := by decide +kernel
theorem dX7_init_1 : decode cX7_init 1 = .ok (.invokespecial 1, 3) := by decide +kernel
theorem dX7_init_4 : decode cX7_init 4 = .ok (.aload_n 0, 1) := by decide +kernel
theorem dX7_init_5 : decode cX7_init 5 = .ok (.sipush 235, 3) := by decide +kernel
theorem dX7_init_8 : decode cX7_init 8 = .ok (.newarray .int, 2) := by decide +kernel
theorem dX7_init_10 : decode cX7_init 10 = .ok (.putfield 7, 3) := by decide +kernel
theorem dX7_init_13 : decode cX7_init 13 = .ok (.aload_n 0, 1) := by decide +kernel
theorem dX7_init_14 : decode cX7_init 14 = .ok (.sipush 940, 3) := by decide +kernel
theorem dX7_init_17 : decode cX7_init 17 = .ok (.newarray .int, 2) := by decide +kernel
theorem dX7_init_19 : decode cX7_init 19 = .ok (.putfield 13, 3) := by decide +kernel
theorem dX7_init_22 : decode cX7_init 22 = .ok (.aload_n 0, 1) := by decide +kernel
theorem dX7_init_23 : decode cX7_init 23 = .ok (.sipush 235, 3) := by decide +kernel
theorem dX7_init_26 : decode cX7_init 26 = .ok (.newarray .int, 2) := by decide +kernel
theorem dX7_init_28 : decode cX7_init 28 = .ok (.putfield 16, 3) := by decide +kernel
theorem dX7_init_31 : decode cX7_init 31 = .ok (.aload_n 0, 1) := by decide +kernel
theorem dX7_init_32 : decode cX7_init 32 = .ok (.sipush 235, 3) := by decide +kernel
theorem dX7_init_35 : decode cX7_init 35 = .ok (.newarray .int, 2) := by decide +kernel
theorem dX7_init_37 : decode cX7_init 37 = .ok (.putfield 19, 3) := by decide +kernel
theorem dX7_init_40 : decode cX7_init 40 = .ok (.aload_n 0, 1) := by decide +kernel
theorem dX7_init_41 : decode cX7_init 41 = .ok (.sipush 235, 3) := by decide +kernel
theorem dX7_init_44 : decode cX7_init 44 = .ok (.newarray .int, 2) := by decide +kernel
theorem dX7_init_46 : decode cX7_init 46 = .ok (.putfield 22, 3) := by decide +kernel
theorem dX7_init_49 : decode cX7_init 49 = .ok (.aload_n 0, 1) := by decide +kernel
theorem dX7_init_50 : decode cX7_init 50 = .ok (.bipush 60, 2) := by decide +kernel
theorem dX7_init_52 : decode cX7_init 52 = .ok (.newarray .int, 2) := by decide +kernel
theorem dX7_init_54 : decode cX7_init 54 = .ok (.putfield 25, 3) := by decide +kernel
theorem dX7_init_57 : decode cX7_init 57 = .ok (.aload_n 0, 1) := by decide +kernel
theorem dX7_init_58 : decode cX7_init 58 = .ok (.iconst 3, 1) := by decide +kernel
theorem dX7_init_59 : decode cX7_init 59 = .ok (.newarray .int, 2) := by decide +kernel
theorem dX7_init_61 : decode cX7_init 61 = .ok (.putfield 28, 3) := by decide +kernel
theorem dX7_init_64 : decode cX7_init 64 = .ok (.iconst 0, 1) := by decide +kernel
theorem dX7_init_65 : decode cX7_init 65 = .ok (.istore_n 1, 1) := by decide +kernel
theorem dX7_init_66 : decode cX7_init 66 = .ok (.iload_n 1, 1) := by decide +kernel
theorem dX7_init_67 : decode cX7_init 67 = .ok (.bipush 8, 2) := by decide +kernel
theorem dX7_init_69 : decode cX7_init 69 = .ok (.if_icmp .ge 20, 3) := by decide +kernel
theorem dX7_init_72 : decode cX7_init 72 = .ok (.aload_n 0, 1) := by decide +kernel
theorem dX7_init_73 : decode cX7_init 73 = .ok (.getfield 7, 3) := by decide +kernel
theorem dX7_init_76 : decode cX7_init 76 = .ok (.sipush 218, 3) := by decide +kernel
theorem dX7_init_79 : decode cX7_init 79 = .ok (.iload_n 1, 1) := by decide +kernel
theorem dX7_init_80 : decode cX7_init 80 = .ok (.iadd, 1) := by decide +kernel
theorem dX7_init_81 : decode cX7_init 81 = .ok (.iconst (-1), 1) := by decide +kernel
theorem dX7_init_82 : decode cX7_init 82 = .ok (.iastore, 1) := by decide +kernel
theorem dX7_init_83 : decode cX7_init 83 = .ok (.iinc 1 1, 3) := by decide +kernel
theorem dX7_init_86 : decode cX7_init 86 = .ok (.goto (-20), 3) := by decide +kernel
theorem dX7_init_89 : decode cX7_init 89 = .ok (.aload_n 0, 1) := by decide +kernel
theorem dX7_init_90 : decode cX7_init 90 = .ok (.getfield 7, 3) := by decide +kernel
theorem dX7_init_93 : decode cX7_init 93 = .ok (.sipush 234, 3) := by decide +kernel
theorem dX7_init_96 : decode cX7_init 96 = .ok (.iconst 1, 1) := by decide +kernel
theorem dX7_init_97 : decode cX7_init 97 = .ok (.iastore, 1) := by decide +kernel
theorem dX7_init_98 : decode cX7_init 98 = .ok (.return_, 1) := by decide +kernel
set_option maxRecDepth 100000 in
set_option maxHeartbeats 4000000 in
theorem c_X7_init {l : Launch} {D : va_G} {cI : ClassId × ClassId} {h0 : Nat} : CTn l D cI yX7_init cX7_init 2 rm_X7_init 7 1943 h0 (.inr (7, [.null, .null, .null, .null, .null, .int 0, .int 0, .int 0, .null, .int 0, .int 0, .int 0, .int 0, .int 0, .null])) (F_X7 cI h0) := by
  refine CTn.of (by decide +kernel) rfl (Nat.le_of_ble_eq_true rfl) ?_
  intro p e s m args below meth c A X hr hin hA
  have X : gX p s m args meth c cX7_init 2 RX7 D cI := X
  show G _ _ _ _ _ _ _ _ _ _ _ _ _ _ _ _ _ 0 [some (.ref h0), none] [] ([(h0, .inr (7, [.null, .null, .null, .null, .null, .int 0, .int 0, .int 0, .null, .int 0, .int 0, .int 0, .int 0, .int 0, .null]))] : va_W)
  refine g_aload_n X (i := 0) dX7_init_0 rfl rfl ?_
  refine g_objI X dX7_init_1 ml_X7_1 ⟨Nat.le_of_ble_eq_true rfl, Nat.le_of_ble_eq_true rfl⟩ ?_
  refine g_aload_n X (i := 0) dX7_init_4 rfl rfl ?_
  refine g_sipush X dX7_init_5 (v := 235) (by decide) ?_
  refine g_newa X hA 235 dX7_init_8 (by decide) (by decide) (Nat.le_of_ble_eq_true rfl) ⟨Nat.le_of_ble_eq_true rfl, Nat.le_of_ble_eq_true rfl⟩ (fun q1 => ?_)
  refine g_putF X hin (q0 := 0) (w' := [(h0, .inr (7, [.ref q1, .null, .null, .null, .null, .int 0, .int 0, .int 0, .null, .int 0, .int 0, .int 0, .int 0, .int 0, .null])), (q1, .inl (cI.1, 235, .inl (fun _ => 0)))]) 0 dX7_init_10 gC_X7 rfl rfl (by decide) fl_X7_7 rfl rfl rfl rfl rfl (Nat.le_of_ble_eq_true rfl) rfl ?_
  refine g_aload_n X (i := 0) dX7_init_13 rfl rfl ?_
  refine g_sipush X dX7_init_14 (v := 940) (by decide) ?_
  refine g_newa X hA 940 dX7_init_17 (by decide) (by decide) (Nat.le_of_ble_eq_true rfl) ⟨Nat.le_of_ble_eq_true rfl, Nat.le_of_ble_eq_true rfl⟩ (fun q2 => ?_)
  refine g_putF X hin (q0 := 0) (w' := [(h0, .inr (7, [.ref q1, .ref q2, .null, .null, .null, .int 0, .int 0, .int 0, .null, .int 0, .int 0, .int 0, .int 0, .int 0, .null])), (q1, .inl (cI.1, 235, .inl (fun _ => 0))), (q2, .inl (cI.1, 940, .inl (fun _ => 0)))]) 1 dX7_init_19 gC_X7 rfl rfl (by decide) fl_X7_13 rfl rfl rfl rfl rfl (Nat.le_of_ble_eq_true rfl) rfl ?_
  refine g_aload_n X (i := 0) dX7_init_22 rfl rfl ?_
  refine g_sipush X dX7_init_23 (v := 235) (by decide) ?_
  refine g_newa X hA 235 dX7_init_26 (by decide) (by decide) (Nat.le_of_ble_eq_true rfl) ⟨Nat.le_of_ble_eq_true rfl, Nat.le_of_ble_eq_true rfl⟩ (fun q3 => ?_)
  refine g_putF X hin (q0 := 0) (w' := [(h0, .inr (7, [.ref q1, .ref q2, .ref q3, .null, .null, .int 0, .int 0, .int 0, .null, .int 0, .int 0, .int 0, .int 0, .int 0, .null])), (q1, .inl (cI.1, 235, .inl (fun _ => 0))), (q2, .inl (cI.1, 940, .inl (fun _ => 0))), (q3, .inl (cI.1, 235, .inl (fun _ => 0)))]) 2 dX7_init_28 gC_X7 rfl rfl (by decide) fl_X7_16 rfl rfl rfl rfl rfl (Nat.le_of_ble_eq_true rfl) rfl ?_
  refine g_aload_n X (i := 0) dX7_init_31 rfl rfl ?_
  refine g_sipush X dX7_init_32 (v := 235) (by decide) ?_
  refine g_newa X hA 235 dX7_init_35 (by decide) (by decide) (Nat.le_of_ble_eq_true rfl) ⟨Nat.le_of_ble_eq_true rfl, Nat.le_of_ble_eq_true rfl⟩ (fun q4 => ?_)
  refine g_putF X hin (q0 := 0) (w' := [(h0, .inr (7, [.ref q1, .ref q2, .ref q3, .ref q4, .null, .int 0, .int 0, .int 0, .null, .int 0, .int 0, .int 0, .int 0, .int 0, .null])), (q1, .inl (cI.1, 235, .inl (fun _ => 0))), (q2, .inl (cI.1, 940, .inl (fun _ => 0))), (q3, .inl (cI.1, 235, .inl (fun _ => 0))), (q4, .inl (cI.1, 235, .inl (fun _ => 0)))]) 3 dX7_init_37 gC_X7 rfl rfl (by decide) fl_X7_19 rfl rfl rfl rfl rfl (Nat.le_of_ble_eq_true rfl) rfl ?_
  refine g_aload_n X (i := 0) dX7_init_40 rfl rfl ?_
  refine g_sipush X dX7_init_41 (v := 235) (by decide) ?_
  refine g_newa X hA 235 dX7_init_44 (by decide) (by decide) (Nat.le_of_ble_eq_true rfl) ⟨Nat.le_of_ble_eq_true rfl, Nat.le_of_ble_eq_true rfl⟩ (fun q5 => ?_)
  refine g_putF X hin (q0 := 0) (w' := [(h0, .inr (7, [.ref q1, .ref q2, .ref q3, .ref q4, .ref q5, .int 0, .int 0, .int 0, .null, .int 0, .int 0, .int 0, .int 0, .int 0, .null])), (q1, .inl (cI.1, 235, .inl (fun _ => 0))), (q2, .inl (cI.1, 940, .inl (fun _ => 0))), (q3, .inl (cI.1, 235, .inl (fun _ => 0))), (q4, .inl (cI.1, 235, .inl (fun _ => 0))), (q5, .inl (cI.1, 235, .inl (fun _ => 0)))]) 4 dX7_init_46 gC_X7 rfl rfl (by decide) fl_X7_22 rfl rfl rfl rfl rfl (Nat.le_of_ble_eq_true rfl) rfl ?_
  refine g_aload_n X (i := 0) dX7_init_49 rfl rfl ?_
  refine g_bipush X dX7_init_50 (v := 60) (by decide) ?_
  refine g_newa X hA 60 dX7_init_52 (by decide) (by decide) (Nat.le_of_ble_eq_true rfl) ⟨Nat.le_of_ble_eq_true rfl, Nat.le_of_ble_eq_true rfl⟩ (fun q6 => ?_)
  refine g_putF X hin (q0 := 0) (w' := [(h0, .inr (7, [.ref q1, .ref q2, .ref q3, .ref q4, .ref q5, .int 0, .int 0, .int 0, .ref q6, .int 0, .int 0, .int 0, .int 0, .int 0, .null])), (q1, .inl (cI.1, 235, .inl (fun _ => 0))), (q2, .inl (cI.1, 940, .inl (fun _ => 0))), (q3, .inl (cI.1, 235, .inl (fun _ => 0))), (q4, .inl (cI.1, 235, .inl (fun _ => 0))), (q5, .inl (cI.1, 235, .inl (fun _ => 0))), (q6, .inl (cI.1, 60, .inl (fun _ => 0)))]) 8 dX7_init_54 gC_X7 rfl rfl (by decide) fl_X7_25 rfl rfl rfl rfl rfl (Nat.le_of_ble_eq_true rfl) rfl ?_
  refine g_aload_n X (i := 0) dX7_init_57 rfl rfl ?_
  refine g_iconst X dX7_init_58 (v := 3) (by decide) ?_
  refine g_newa X hA 3 dX7_init_59 (by decide) (by decide) (Nat.le_of_ble_eq_true rfl) ⟨Nat.le_of_ble_eq_true rfl, Nat.le_of_ble_eq_true rfl⟩ (fun q7 => ?_)
  refine g_putF X hin (q0 := 0) (w' := [(h0, .inr (7, [.ref q1, .ref q2, .ref q3, .ref q4, .ref q5, .int 0, .int 0, .int 0, .ref q6, .int 0, .int 0, .int 0, .int 0, .int 0, .ref q7])), (q1, .inl (cI.1, 235, .inl (fun _ => 0))), (q2, .inl (cI.1, 940, .inl (fun _ => 0))), (q3, .inl (cI.1, 235, .inl (fun _ => 0))), (q4, .inl (cI.1, 235, .inl (fun _ => 0))), (q5, .inl (cI.1, 235, .inl (fun _ => 0))), (q6, .inl (cI.1, 60, .inl (fun _ => 0))), (q7, .inl (cI.1, 3, .inl (fun _ => 0)))]) 14 dX7_init_61 gC_X7 rfl rfl (by decide) fl_X7_28 rfl rfl rfl rfl rfl (Nat.le_of_ble_eq_true rfl) rfl ?_
  refine g_iconst X dX7_init_64 (v := 0) (by decide) ?_
  refine g_istore_n X (i := 1) dX7_init_65 rfl (by decide) rfl ?_
  refine g_iload_n X (i := 1) dX7_init_66 rfl rfl ?_
  refine g_bipush X dX7_init_67 (v := 8) (by decide) ?_
  refine g_icmp_ge X dX7_init_69 (tgt := 89) (by decide) (F1 := some ()) (F2 := some ()) (o := ()) (by split <;> rfl) (fun cc0 _ => ?_) (fun cc0 _ => ?_)
  rotate_left
  · exact absurd (by decide) cc0
  refine g_aload_n X (i := 0) dX7_init_72 rfl rfl ?_
  refine g_get X (wf := wI) (q0 := 0) (v := .ref q1) 0 dX7_init_73 gC_X7 rfl rfl (by decide) fl_X7_7 rfl rfl ?_
  refine g_sipush X dX7_init_76 (v := 218) (by decide) ?_
  refine g_iload_n X (i := 1) dX7_init_79 rfl rfl ?_
  refine g_iadd X dX7_init_80 ?_
  refine g_iconst X dX7_init_81 (v := (-1)) (by decide) ?_
  refine g_iast X (wf := wI) (q0 := 1) (f := fun _ => 0) (w' := [(h0, .inr (7, [.ref q1, .ref q2, .ref q3, .ref q4, .ref q5, .int 0, .int 0, .int 0, .ref q6, .int 0, .int 0, .int 0, .int 0, .int 0, .ref q7])), (q1, .inl (cI.1, 235, .inl (upd (fun _ => 0) (218 + 0 : Int32).toNatClampNeg (-1)))), (q2, .inl (cI.1, 940, .inl (fun _ => 0))), (q3, .inl (cI.1, 235, .inl (fun _ => 0))), (q4, .inl (cI.1, 235, .inl (fun _ => 0))), (q5, .inl (cI.1, 235, .inl (fun _ => 0))), (q6, .inl (cI.1, 60, .inl (fun _ => 0))), (q7, .inl (cI.1, 3, .inl (fun _ => 0)))]) dX7_init_82 rfl ⟨by decide, by decide⟩ rfl ?_
  refine g_iinc X (i := 1) (v := 1) dX7_init_83 rfl (by decide) (by decide) rfl ?_
  refine g_goto X dX7_init_86 (tgt := 66) (by decide) ?_
  refine g_iload_n X (i := 1) dX7_init_66 rfl rfl ?_
  refine g_bipush X dX7_init_67 (v := 8) (by decide) ?_
  refine g_icmp_ge X dX7_init_69 (tgt := 89) (by decide) (F1 := some ()) (F2 := some ()) (o := ()) (by split <;> rfl) (fun cc1 _ => ?_) (fun cc1 _ => ?_)
  rotate_left
  · exact absurd (by decide) cc1
  refine g_aload_n X (i := 0) dX7_init_72 rfl rfl ?_
  refine g_get X (wf := wI) (q0 := 0) (v := .ref q1) 0 dX7_init_73 gC_X7 rfl rfl (by decide) fl_X7_7 rfl rfl ?_
  refine g_sipush X dX7_init_76 (v := 218) (by decide) ?_
  refine g_iload_n X (i := 1) dX7_init_79 rfl rfl ?_
  refine g_iadd X dX7_init_80 ?_
  refine g_iconst X dX7_init_81 (v := (-1)) (by decide) ?_
  refine g_iast X (wf := wI) (q0 := 1) (f := upd (fun _ => 0) (218 + 0 : Int32).toNatClampNeg (-1)) (w' := [(h0, .inr (7, [.ref q1, .ref q2, .ref q3, .ref q4, .ref q5, .int 0, .int 0, .int 0, .ref q6, .int 0, .int 0, .int 0, .int 0, .int 0, .ref q7])), (q1, .inl (cI.1, 235, .inl (upd (upd (fun _ => 0) (218 + 0 : Int32).toNatClampNeg (-1)) (218 + (0 + 1) : Int32).toNatClampNeg (-1)))), (q2, .inl (cI.1, 940, .inl (fun _ => 0))), (q3, .inl (cI.1, 235, .inl (fun _ => 0))), (q4, .inl (cI.1, 235, .inl (fun _ => 0))), (q5, .inl (cI.1, 235, .inl (fun _ => 0))), (q6, .inl (cI.1, 60, .inl (fun _ => 0))), (q7, .inl (cI.1, 3, .inl (fun _ => 0)))]) dX7_init_82 rfl ⟨by decide, by decide⟩ rfl ?_
  refine g_iinc X (i := 1) (v := 1) dX7_init_83 rfl (by decide) (by decide) rfl ?_
  refine g_goto X dX7_init_86 (tgt := 66) (by decide) ?_
  refine g_iload_n X (i := 1) dX7_init_66 rfl rfl ?_
  refine g_bipush X dX7_init_67 (v := 8) (by decide) ?_
  refine g_icmp_ge X dX7_init_69 (tgt := 89) (by decide) (F1 := some ()) (F2 := some ()) (o := ()) (by split <;> rfl) (fun cc2 _ => ?_) (fun cc2 _ => ?_)
  rotate_left
  · exact absurd (by decide) cc2
  refine g_aload_n X (i := 0) dX7_init_72 rfl rfl ?_
  refine g_get X (wf := wI) (q0 := 0) (v := .ref q1) 0 dX7_init_73 gC_X7 rfl rfl (by decide) fl_X7_7 rfl rfl ?_
  refine g_sipush X dX7_init_76 (v := 218) (by decide) ?_
  refine g_iload_n X (i := 1) dX7_init_79 rfl rfl ?_
  refine g_iadd X dX7_init_80 ?_
  refine g_iconst X dX7_init_81 (v := (-1)) (by decide) ?_
  refine g_iast X (wf := wI) (q0 := 1) (f := upd (upd (fun _ => 0) (218 + 0 : Int32).toNatClampNeg (-1)) (218 + (0 + 1) : Int32).toNatClampNeg (-1)) (w' := [(h0, .inr (7, [.ref q1, .ref q2, .ref q3, .ref q4, .ref q5, .int 0, .int 0, .int 0, .ref q6, .int 0, .int 0, .int 0, .int 0, .int 0, .ref q7])), (q1, .inl (cI.1, 235, .inl (upd (upd (upd (fun _ => 0) (218 + 0 : Int32).toNatClampNeg (-1)) (218 + (0 + 1) : Int32).toNatClampNeg (-1)) (218 + ((0 + 1) + 1) : Int32).toNatClampNeg (-1)))), (q2, .inl (cI.1, 940, .inl (fun _ => 0))), (q3, .inl (cI.1, 235, .inl (fun _ => 0))), (q4, .inl (cI.1, 235, .inl (fun _ => 0))), (q5, .inl (cI.1, 235, .inl (fun _ => 0))), (q6, .inl (cI.1, 60, .inl (fun _ => 0))), (q7, .inl (cI.1, 3, .inl (fun _ => 0)))]) dX7_init_82 rfl ⟨by decide, by decide⟩ rfl ?_
  refine g_iinc X (i := 1) (v := 1) dX7_init_83 rfl (by decide) (by decide) rfl ?_
  refine g_goto X dX7_init_86 (tgt := 66) (by decide) ?_
  refine g_iload_n X (i := 1) dX7_init_66 rfl rfl ?_
  refine g_bipush X dX7_init_67 (v := 8) (by decide) ?_
  refine g_icmp_ge X dX7_init_69 (tgt := 89) (by decide) (F1 := some ()) (F2 := some ()) (o := ()) (by split <;> rfl) (fun cc3 _ => ?_) (fun cc3 _ => ?_)
  rotate_left
  · exact absurd (by decide) cc3
  refine g_aload_n X (i := 0) dX7_init_72 rfl rfl ?_
  refine g_get X (wf := wI) (q0 := 0) (v := .ref q1) 0 dX7_init_73 gC_X7 rfl rfl (by decide) fl_X7_7 rfl rfl ?_
  refine g_sipush X dX7_init_76 (v := 218) (by decide) ?_
  refine g_iload_n X (i := 1) dX7_init_79 rfl rfl ?_
  refine g_iadd X dX7_init_80 ?_
  refine g_iconst X dX7_init_81 (v := (-1)) (by decide) ?_
  refine g_iast X (wf := wI) (q0 := 1) (f := upd (upd (upd (fun _ => 0) (218 + 0 : Int32).toNatClampNeg (-1)) (218 + (0 + 1) : Int32).toNatClampNeg (-1)) (218 + ((0 + 1) + 1) : Int32).toNatClampNeg (-1)) (w' := [(h0, .inr (7, [.ref q1, .ref q2, .ref q3, .ref q4, .ref q5, .int 0, .int 0, .int 0, .ref q6, .int 0, .int 0, .int 0, .int 0, .int 0, .ref q7])), (q1, .inl (cI.1, 235, .inl (upd (upd (upd (upd (fun _ => 0) (218 + 0 : Int32).toNatClampNeg (-1)) (218 + (0 + 1) : Int32).toNatClampNeg (-1)) (218 + ((0 + 1) + 1) : Int32).toNatClampNeg (-1)) (218 + (((0 + 1) + 1) + 1) : Int32).toNatClampNeg (-1)))), (q2, .inl (cI.1, 940, .inl (fun _ => 0))), (q3, .inl (cI.1, 235, .inl (fun _ => 0))), (q4, .inl (cI.1, 235, .inl (fun _ => 0))), (q5, .inl (cI.1, 235, .inl (fun _ => 0))), (q6, .inl (cI.1, 60, .inl (fun _ => 0))), (q7, .inl (cI.1, 3, .inl (fun _ => 0)))]) dX7_init_82 rfl ⟨by decide, by decide⟩ rfl ?_
  refine g_iinc X (i := 1) (v := 1) dX7_init_83 rfl (by decide) (by decide) rfl ?_
  refine g_goto X dX7_init_86 (tgt := 66) (by decide) ?_
  refine g_iload_n X (i := 1) dX7_init_66 rfl rfl ?_
  refine g_bipush X dX7_init_67 (v := 8) (by decide) ?_
  refine g_icmp_ge X dX7_init_69 (tgt := 89) (by decide) (F1 := some ()) (F2 := some ()) (o := ()) (by split <;> rfl) (fun cc4 _ => ?_) (fun cc4 _ => ?_)
  rotate_left
  · exact absurd (by decide) cc4
  refine g_aload_n X (i := 0) dX7_init_72 rfl rfl ?_
  refine g_get X (wf := wI) (q0 := 0) (v := .ref q1) 0 dX7_init_73 gC_X7 rfl rfl (by decide) fl_X7_7 rfl rfl ?_
  refine g_sipush X dX7_init_76 (v := 218) (by decide) ?_
  refine g_iload_n X (i := 1) dX7_init_79 rfl rfl ?_
  refine g_iadd X dX7_init_80 ?_
  refine g_iconst X dX7_init_81 (v := (-1)) (by decide) ?_
  refine g_iast X (wf := wI) (q0 := 1) (f := upd (upd (upd (upd (fun _ => 0) (218 + 0 : Int32).toNatClampNeg (-1)) (218 + (0 + 1) : Int32).toNatClampNeg (-1)) (218 + ((0 + 1) + 1) : Int32).toNatClampNeg (-1)) (218 + (((0 + 1) + 1) + 1) : Int32).toNatClampNeg (-1)) (w' := [(h0, .inr (7, [.ref q1, .ref q2, .ref q3, .ref q4, .ref q5, .int 0, .int 0, .int 0, .ref q6, .int 0, .int 0, .int 0, .int 0, .int 0, .ref q7])), (q1, .inl (cI.1, 235, .inl (upd (upd (upd (upd (upd (fun _ => 0) (218 + 0 : Int32).toNatClampNeg (-1)) (218 + (0 + 1) : Int32).toNatClampNeg (-1)) (218 + ((0 + 1) + 1) : Int32).toNatClampNeg (-1)) (218 + (((0 + 1) + 1) + 1) : Int32).toNatClampNeg (-1)) (218 + ((((0 + 1) + 1) + 1) + 1) : Int32).toNatClampNeg (-1)))), (q2, .inl (cI.1, 940, .inl (fun _ => 0))), (q3, .inl (cI.1, 235, .inl (fun _ => 0))), (q4, .inl (cI.1, 235, .inl (fun _ => 0))), (q5, .inl (cI.1, 235, .inl (fun _ => 0))), (q6, .inl (cI.1, 60, .inl (fun _ => 0))), (q7, .inl (cI.1, 3, .inl (fun _ => 0)))]) dX7_init_82 rfl ⟨by decide, by decide⟩ rfl ?_
  refine g_iinc X (i := 1) (v := 1) dX7_init_83 rfl (by decide) (by decide) rfl ?_
  refine g_goto X dX7_init_86 (tgt := 66) (by decide) ?_
  refine g_iload_n X (i := 1) dX7_init_66 rfl rfl ?_
  refine g_bipush X dX7_init_67 (v := 8) (by decide) ?_
  refine g_icmp_ge X dX7_init_69 (tgt := 89) (by decide) (F1 := some ()) (F2 := some ()) (o := ()) (by split <;> rfl) (fun cc5 _ => ?_) (fun cc5 _ => ?_)
  rotate_left
  · exact absurd (by decide) cc5
  refine g_aload_n X (i := 0) dX7_init_72 rfl rfl ?_
  refine g_get X (wf := wI) (q0 := 0) (v := .ref q1) 0 dX7_init_73 gC_X7 rfl rfl (by decide) fl_X7_7 rfl rfl ?_
  refine g_sipush X dX7_init_76 (v := 218) (by decide) ?_
  refine g_iload_n X (i := 1) dX7_init_79 rfl rfl ?_
  refine g_iadd X dX7_init_80 ?_
  refine g_iconst X dX7_init_81 (v := (-1)) (by decide) ?_
  refine g_iast X (wf := wI) (q0 := 1) (f := upd (upd (upd (upd (upd (fun _ => 0) (218 + 0 : Int32).toNatClampNeg (-1)) (218 + (0 + 1) : Int32).toNatClampNeg (-1)) (218 + ((0 + 1) + 1) : Int32).toNatClampNeg (-1)) (218 + (((0 + 1) + 1) + 1) : Int32).toNatClampNeg (-1)) (218 + ((((0 + 1) + 1) + 1) + 1) : Int32).toNatClampNeg (-1)) (w' := [(h0, .inr (7, [.ref q1, .ref q2, .ref q3, .ref q4, .ref q5, .int 0, .int 0, .int 0, .ref q6, .int 0, .int 0, .int 0, .int 0, .int 0, .ref q7])), (q1, .inl (cI.1, 235, .inl (upd (upd (upd (upd (upd (upd (fun _ => 0) (218 + 0 : Int32).toNatClampNeg (-1)) (218 + (0 + 1) : Int32).toNatClampNeg (-1)) (218 + ((0 + 1) + 1) : Int32).toNatClampNeg (-1)) (218 + (((0 + 1) + 1) + 1) : Int32).toNatClampNeg (-1)) (218 + ((((0 + 1) + 1) + 1) + 1) : Int32).toNatClampNeg (-1)) (218 + (((((0 + 1) + 1) + 1) + 1) + 1) : Int32).toNatClampNeg (-1)))), (q2, .inl (cI.1, 940, .inl (fun _ => 0))), (q3, .inl (cI.1, 235, .inl (fun _ => 0))), (q4, .inl (cI.1, 235, .inl (fun _ => 0))), (q5, .inl (cI.1, 235, .inl (fun _ => 0))), (q6, .inl (cI.1, 60, .inl (fun _ => 0))), (q7, .inl (cI.1, 3, .inl (fun _ => 0)))]) dX7_init_82 rfl ⟨by decide, by decide⟩ rfl ?_
  refine g_iinc X (i := 1) (v := 1) dX7_init_83 rfl (by decide) (by decide) rfl ?_
  refine g_goto X dX7_init_86 (tgt := 66) (by decide) ?_
  refine g_iload_n X (i := 1) dX7_init_66 rfl rfl ?_
  refine g_bipush X dX7_init_67 (v := 8) (by decide) ?_
  refine g_icmp_ge X dX7_init_69 (tgt := 89) (by decide) (F1 := some ()) (F2 := some ()) (o := ()) (by split <;> rfl) (fun cc6 _ => ?_) (fun cc6 _ => ?_)
  rotate_left
  · exact absurd (by decide) cc6
  refine g_aload_n X (i := 0) dX7_init_72 rfl rfl ?_
  refine g_get X (wf := wI) (q0 := 0) (v := .ref q1) 0 dX7_init_73 gC_X7 rfl rfl (by decide) fl_X7_7 rfl rfl ?_
  refine g_sipush X dX7_init_76 (v := 218) (by decide) ?_
  refine g_iload_n X (i := 1) dX7_init_79 rfl rfl ?_
  refine g_iadd X dX7_init_80 ?_
  refine g_iconst X dX7_init_81 (v := (-1)) (by decide) ?_
  refine g_iast X (wf := wI) (q0 := 1) (f := upd (upd (upd (upd (upd (upd (fun _ => 0) (218 + 0 : Int32).toNatClampNeg (-1)) (218 + (0 + 1) : Int32).toNatClampNeg (-1)) (218 + ((0 + 1) + 1) : Int32).toNatClampNeg (-1)) (218 + (((0 + 1) + 1) + 1) : Int32).toNatClampNeg (-1)) (218 + ((((0 + 1) + 1) + 1) + 1) : Int32).toNatClampNeg (-1)) (218 + (((((0 + 1) + 1) + 1) + 1) + 1) : Int32).toNatClampNeg (-1)) (w' := [(h0, .inr (7, [.ref q1, .ref q2, .ref q3, .ref q4, .ref q5, .int 0, .int 0, .int 0, .ref q6, .int 0, .int 0, .int 0, .int 0, .int 0, .ref q7])), (q1, .inl (cI.1, 235, .inl (upd (upd (upd (upd (upd (upd (upd (fun _ => 0) (218 + 0 : Int32).toNatClampNeg (-1)) (218 + (0 + 1) : Int32).toNatClampNeg (-1)) (218 + ((0 + 1) + 1) : Int32).toNatClampNeg (-1)) (218 + (((0 + 1) + 1) + 1) : Int32).toNatClampNeg (-1)) (218 + ((((0 + 1) + 1) + 1) + 1) : Int32).toNatClampNeg (-1)) (218 + (((((0 + 1) + 1) + 1) + 1) + 1) : Int32).toNatClampNeg (-1)) (218 + ((((((0 + 1) + 1) + 1) + 1) + 1) + 1) : Int32).toNatClampNeg (-1)))), (q2, .inl (cI.1, 940, .inl (fun _ => 0))), (q3, .inl (cI.1, 235, .inl (fun _ => 0))), (q4, .inl (cI.1, 235, .inl (fun _ => 0))), (q5, .inl (cI.1, 235, .inl (fun _ => 0))), (q6, .inl (cI.1, 60, .inl (fun _ => 0))), (q7, .inl (cI.1, 3, .inl (fun _ => 0)))]) dX7_init_82 rfl ⟨by decide, by decide⟩ rfl ?_
  refine g_iinc X (i := 1) (v := 1) dX7_init_83 rfl (by decide) (by decide) rfl ?_
  refine g_goto X dX7_init_86 (tgt := 66) (by decide) ?_
  refine g_iload_n X (i := 1) dX7_init_66 rfl rfl ?_
  refine g_bipush X dX7_init_67 (v := 8) (by decide) ?_
  refine g_icmp_ge X dX7_init_69 (tgt := 89) (by decide) (F1 := some ()) (F2 := some ()) (o := ()) (by split <;> rfl) (fun cc7 _ => ?_) (fun cc7 _ => ?_)
  rotate_left
  · exact absurd (by decide) cc7
  refine g_aload_n X (i := 0) dX7_init_72 rfl rfl ?_
  refine g_get X (wf := wI) (q0 := 0) (v := .ref q1) 0 dX7_init_73 gC_X7 rfl rfl (by decide) fl_X7_7 rfl rfl ?_
  refine g_sipush X dX7_init_76 (v := 218) (by decide) ?_
  refine g_iload_n X (i := 1) dX7_init_79 rfl rfl ?_
  refine g_iadd X dX7_init_80 ?_
  refine g_iconst X dX7_init_81 (v := (-1)) (by decide) ?_
  refine g_iast X (wf := wI) (q0 := 1) (f := upd (upd (upd (upd (upd (upd (upd (fun _ => 0) (218 + 0 : Int32).toNatClampNeg (-1)) (218 + (0 + 1) : Int32).toNatClampNeg (-1)) (218 + ((0 + 1) + 1) : Int32).toNatClampNeg (-1)) (218 + (((0 + 1) + 1) + 1) : Int32).toNatClampNeg (-1)) (218 + ((((0 + 1) + 1) + 1) + 1) : Int32).toNatClampNeg (-1)) (218 + (((((0 + 1) + 1) + 1) + 1) + 1) : Int32).toNatClampNeg (-1)) (218 + ((((((0 + 1) + 1) + 1) + 1) + 1) + 1) : Int32).toNatClampNeg (-1)) (w' := [(h0, .inr (7, [.ref q1, .ref q2, .ref q3, .ref q4, .ref q5, .int 0, .int 0, .int 0, .ref q6, .int 0, .int 0, .int 0, .int 0, .int 0, .ref q7])), (q1, .inl (cI.1, 235, .inl (upd (upd (upd (upd (upd (upd (upd (upd (fun _ => 0) (218 + 0 : Int32).toNatClampNeg (-1)) (218 + (0 + 1) : Int32).toNatClampNeg (-1)) (218 + ((0 + 1) + 1) : Int32).toNatClampNeg (-1)) (218 + (((0 + 1) + 1) + 1) : Int32).toNatClampNeg (-1)) (218 + ((((0 + 1) + 1) + 1) + 1) : Int32).toNatClampNeg (-1)) (218 + (((((0 + 1) + 1) + 1) + 1) + 1) : Int32).toNatClampNeg (-1)) (218 + ((((((0 + 1) + 1) + 1) + 1) + 1) + 1) : Int32).toNatClampNeg (-1)) (218 + (((((((0 + 1) + 1) + 1) + 1) + 1) + 1) + 1) : Int32).toNatClampNeg (-1)))), (q2, .inl (cI.1, 940, .inl (fun _ => 0))), (q3, .inl (cI.1, 235, .inl (fun _ => 0))), (q4, .inl (cI.1, 235, .inl (fun _ => 0))), (q5, .inl (cI.1, 235, .inl (fun _ => 0))), (q6, .inl (cI.1, 60, .inl (fun _ => 0))), (q7, .inl (cI.1, 3, .inl (fun _ => 0)))]) dX7_init_82 rfl ⟨by decide, by decide⟩ rfl ?_
  refine g_iinc X (i := 1) (v := 1) dX7_init_83 rfl (by decide) (by decide) rfl ?_
  refine g_goto X dX7_init_86 (tgt := 66) (by decide) ?_
  refine g_iload_n X (i := 1) dX7_init_66 rfl rfl ?_
  refine g_bipush X dX7_init_67 (v := 8) (by decide) ?_
  refine g_icmp_ge X dX7_init_69 (tgt := 89) (by decide) (F1 := some ()) (F2 := some ()) (o := ()) (by split <;> rfl) (fun cc8 _ => ?_) (fun cc8 _ => ?_)
  · exact absurd cc8 (by decide)
  refine g_aload_n X (i := 0) dX7_init_89 rfl rfl ?_
  refine g_get X (wf := wI) (q0 := 0) (v := .ref q1) 0 dX7_init_90 gC_X7 rfl rfl (by decide) fl_X7_7 rfl rfl ?_
  refine g_sipush X dX7_init_93 (v := 234) (by decide) ?_
  refine g_iconst X dX7_init_96 (v := 1) (by decide) ?_
  refine g_iast X (wf := wI) (q0 := 1) (f := upd (upd (upd (upd (upd (upd (upd (upd (fun _ => 0) (218 + 0 : Int32).toNatClampNeg (-1)) (218 + (0 + 1) : Int32).toNatClampNeg (-1)) (218 + ((0 + 1) + 1) : Int32).toNatClampNeg (-1)) (218 + (((0 + 1) + 1) + 1) : Int32).toNatClampNeg (-1)) (218 + ((((0 + 1) + 1) + 1) + 1) : Int32).toNatClampNeg (-1)) (218 + (((((0 + 1) + 1) + 1) + 1) + 1) : Int32).toNatClampNeg (-1)) (218 + ((((((0 + 1) + 1) + 1) + 1) + 1) + 1) : Int32).toNatClampNeg (-1)) (218 + (((((((0 + 1) + 1) + 1) + 1) + 1) + 1) + 1) : Int32).toNatClampNeg (-1)) (w' := [(h0, .inr (7, [.ref q1, .ref q2, .ref q3, .ref q4, .ref q5, .int 0, .int 0, .int 0, .ref q6, .int 0, .int 0, .int 0, .int 0, .int 0, .ref q7])), (q1, .inl (cI.1, 235, .inl (upd (upd (upd (upd (upd (upd (upd (upd (upd (fun _ => 0) (218 + 0 : Int32).toNatClampNeg (-1)) (218 + (0 + 1) : Int32).toNatClampNeg (-1)) (218 + ((0 + 1) + 1) : Int32).toNatClampNeg (-1)) (218 + (((0 + 1) + 1) + 1) : Int32).toNatClampNeg (-1)) (218 + ((((0 + 1) + 1) + 1) + 1) : Int32).toNatClampNeg (-1)) (218 + (((((0 + 1) + 1) + 1) + 1) + 1) : Int32).toNatClampNeg (-1)) (218 + ((((((0 + 1) + 1) + 1) + 1) + 1) + 1) : Int32).toNatClampNeg (-1)) (218 + (((((((0 + 1) + 1) + 1) + 1) + 1) + 1) + 1) : Int32).toNatClampNeg (-1)) (234 : Int32).toNatClampNeg 1))), (q2, .inl (cI.1, 940, .inl (fun _ => 0))), (q3, .inl (cI.1, 235, .inl (fun _ => 0))), (q4, .inl (cI.1, 235, .inl (fun _ => 0))), (q5, .inl (cI.1, 235, .inl (fun _ => 0))), (q6, .inl (cI.1, 60, .inl (fun _ => 0))), (q7, .inl (cI.1, 3, .inl (fun _ => 0)))]) dX7_init_97 rfl ⟨by decide, by decide⟩ rfl ?_
  refine g_same (w' := [(h0, .inr (7, [.ref q1, .ref q2, .ref q3, .ref q4, .ref q5, .int 0, .int 0, .int 0, .ref q6, .int 0, .int 0, .int 0, .int 0, .int 0, .ref q7])), (q1, .inl (cI.1, 235, .inl (s0M))), (q2, .inl (cI.1, 940, .inl (fun _ => 0))), (q3, .inl (cI.1, 235, .inl (fun _ => 0))), (q4, .inl (cI.1, 235, .inl (fun _ => 0))), (q5, .inl (cI.1, 235, .inl (fun _ => 0))), (q6, .inl (cI.1, 60, .inl (fun _ => 0))), (q7, .inl (cI.1, 3, .inl (fun _ => 0)))]) rfl (fun H hH => ?_) ?_
  · refine va_P_iff.mpr (fun z hz => ?_)
    simp only [List.mem_cons, List.not_mem_nil, or_false] at hz
    rcases hz with rfl | rfl | rfl | rfl | rfl | rfl | rfl | rfl
    · exact va_P_iff.mp hH _ (List.mem_of_getElem? (i := 0) rfl)
    · exact arr_at (fun k hk => s0M_eq k hk) (va_P_iff.mp hH _ (List.mem_of_getElem? (i := 1) rfl))
    · exact va_P_iff.mp hH _ (List.mem_of_getElem? (i := 2) rfl)
    · exact va_P_iff.mp hH _ (List.mem_of_getElem? (i := 3) rfl)
    · exact va_P_iff.mp hH _ (List.mem_of_getElem? (i := 4) rfl)
    · exact va_P_iff.mp hH _ (List.mem_of_getElem? (i := 5) rfl)
    · exact va_P_iff.mp hH _ (List.mem_of_getElem? (i := 6) rfl)
    · exact va_P_iff.mp hH _ (List.mem_of_getElem? (i := 7) rfl)
  exact g_nret X hr (fun k => ([q1, q2, q3, q4, q5, q6, q7] : List Nat).getD k 0) dX7_init_98 rfl
