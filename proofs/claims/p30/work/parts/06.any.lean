def f_X6_bit {Wt : Type} (x1 : Int32) (w : Wt) : Option (Int32 × Wt) := (if x1 < 0 then some (0, w) else (if x1 < 24 then some (1 <<< (x1 &&& 31), w) else some (0, w)))
set_option maxRecDepth 100000 in
set_option maxHeartbeats 4000000 in
theorem c_X6_bit {l : Launch} {D : va_G} {cI : ClassId × ClassId} {A : Nat → Prop} {Wt : Type} {wf : Wt → va_W} {x1 : Int32} {w : Wt} {o : Int32 × Wt} (hf : f_X6_bit x1 w = some o) : CTi l D cI A yX6_bit cX6_bit 1 (some .int) rm_X6_bit [.int x1] (wf w) o.1 (wf o.2)   := by
  refine CTi.of (by decide +kernel) rfl (Nat.le_of_ble_eq_true rfl) ?_
  intro p e s m args below meth c X hr
  have X : gX p s m args meth c cX6_bit 1 RX6 D cI := X
  show G _ _ _ _ _ _ _ _ _ _ _ _ _ _ _ _ _ 0 [some (.int x1)] [] w
  unfold f_X6_bit at hf
  refine g_iload_n X (i := 0) dX6_bit_0 rfl rfl ?_
  refine g_if_lt X dX6_bit_1 (tgt := 16) (by decide) hf (fun c1 hf => ?_) (fun c1 hf => ?_)
  · refine g_iconst X dX6_bit_16 (v := 0) (by decide) ?_
    exact g_iret X hr dX6_bit_17 hf
  · refine g_iload_n X (i := 0) dX6_bit_4 rfl rfl ?_
    refine g_bipush X dX6_bit_5 (v := 24) (by decide) ?_
    refine g_icmp_ge X dX6_bit_7 (tgt := 16) (by decide) hf (fun c2 hf => ?_) (fun c2 hf => ?_)
    · refine g_iconst X dX6_bit_10 (v := 1) (by decide) ?_
      refine g_iload_n X (i := 0) dX6_bit_11 rfl rfl ?_
      refine g_ishl X dX6_bit_12 ?_
      refine g_goto X dX6_bit_13 (tgt := 17) (by decide) ?_
      exact g_iret X hr dX6_bit_17 hf
    · refine g_iconst X dX6_bit_16 (v := 0) (by decide) ?_
      exact g_iret X hr dX6_bit_17 hf
def f_X6_isIn {Wt : Type} (x1 x2 : Int32) (w : Wt) : Option (Int32 × Wt) := (if x1 < 0 then some (0, w) else (if x1 < x2 then some (1, w) else some (0, w)))
set_option maxRecDepth 100000 in
set_option maxHeartbeats 4000000 in
theorem c_X6_isIn {l : Launch} {D : va_G} {cI : ClassId × ClassId} {A : Nat → Prop} {Wt : Type} {wf : Wt → va_W} {x1 x2 : Int32} {w : Wt} {o : Int32 × Wt} (hf : f_X6_isIn x1 x2 w = some o) : CTi l D cI A yX6_isIn cX6_isIn 2 (some .boolean) rm_X6_isIn [.int x1, .int x2] (wf w) o.1 (wf o.2)   := by
  refine CTi.of (by decide +kernel) rfl (Nat.le_of_ble_eq_true rfl) ?_
  intro p e s m args below meth c X hr
  have X : gX p s m args meth c cX6_isIn 2 RX6 D cI := X
  show G _ _ _ _ _ _ _ _ _ _ _ _ _ _ _ _ _ 0 [some (.int x1), some (.int x2)] [] w
  unfold f_X6_isIn at hf
  refine g_iload_n X (i := 0) dX6_isIn_0 rfl rfl ?_
  refine g_if_lt X dX6_isIn_1 (tgt := 13) (by decide) hf (fun c1 hf => ?_) (fun c1 hf => ?_)
  · refine g_iconst X dX6_isIn_13 (v := 0) (by decide) ?_
    exact g_zret X hr dX6_isIn_14 rfl hf
  · refine g_iload_n X (i := 0) dX6_isIn_4 rfl rfl ?_
    refine g_iload_n X (i := 1) dX6_isIn_5 rfl rfl ?_
    refine g_icmp_ge X dX6_isIn_6 (tgt := 13) (by decide) hf (fun c2 hf => ?_) (fun c2 hf => ?_)
    · refine g_iconst X dX6_isIn_9 (v := 1) (by decide) ?_
      refine g_goto X dX6_isIn_10 (tgt := 14) (by decide) ?_
      exact g_zret X hr dX6_isIn_14 rfl hf
    · refine g_iconst X dX6_isIn_13 (v := 0) (by decide) ?_
      exact g_zret X hr dX6_isIn_14 rfl hf
def f_X6_isError {Wt : Type} (x1 : Int32) (w : Wt) : Option (Int32 × Wt) := (if ((-11) : Int32) < x1 then some (0, w) else some (1, w))
set_option maxRecDepth 100000 in
set_option maxHeartbeats 4000000 in
theorem c_X6_isError {l : Launch} {D : va_G} {cI : ClassId × ClassId} {A : Nat → Prop} {Wt : Type} {wf : Wt → va_W} {x1 : Int32} {w : Wt} {o : Int32 × Wt} (hf : f_X6_isError x1 w = some o) : CTi l D cI A yX6_isError cX6_isError 1 (some .boolean) rm_X6_isError [.int x1] (wf w) o.1 (wf o.2)   := by
  refine CTi.of (by decide +kernel) rfl (Nat.le_of_ble_eq_true rfl) ?_
  intro p e s m args below meth c X hr
  have X : gX p s m args meth c cX6_isError 1 RX6 D cI := X
  show G _ _ _ _ _ _ _ _ _ _ _ _ _ _ _ _ _ 0 [some (.int x1)] [] w
  unfold f_X6_isError at hf
  refine g_iload_n X (i := 0) dX6_isError_0 rfl rfl ?_
  refine g_bipush X dX6_isError_1 (v := (-11)) (by decide) ?_
  refine g_icmp_gt X dX6_isError_3 (tgt := 10) (by decide) hf (fun c1 hf => ?_) (fun c1 hf => ?_)
  · refine g_iconst X dX6_isError_10 (v := 0) (by decide) ?_
    exact g_zret X hr dX6_isError_11 rfl hf
  · refine g_iconst X dX6_isError_6 (v := 1) (by decide) ?_
    refine g_goto X dX6_isError_7 (tgt := 11) (by decide) ?_
    exact g_zret X hr dX6_isError_11 rfl hf
def f_X6_lowestOf_L6 {Wt : Type} : Nat → Int32 → Int32 → Wt → Option (Int32 × Wt)
  | 0, _, _, _ => none
  | n + 1, x0, x2, w => (if x2 < 24 then (f_X6_bit x2 w).bind fun o2 => (if (x0 &&& o2.1) = 0 then f_X6_lowestOf_L6 n x0 (x2 + 1) o2.2 else some (x2, o2.2)) else some ((-1), w))
def f_X6_lowestOf {Wt : Type} (x1 x2 : Int32) (w : Wt) : Option (Int32 × Wt) := f_X6_lowestOf_L6 BIG x1 (if x2 < 0 then 0 else x2) w
set_option maxRecDepth 100000 in
set_option maxHeartbeats 4000000 in
theorem gl_X6_lowestOf_L6 {p : Program} {l : Launch} {e : Env} {s : State} {m : MethodId} {args : Array Value} {below : List Frame} {meth : Method} {c : Code} {D : va_G} {A : Nat → Prop} {cI : ClassId × ClassId} {Wt : Type} {wf : Wt → va_W} {o : Int32 × Wt} (X : gX p s m args meth c cX6_lowestOf 3 RX6 D cI) (hr : meth.sig.returnType = some .int) (n : Nat) : ∀ {x0 x2 : Int32} {w : Wt}, f_X6_lowestOf_L6 n x0 x2 w = some o → G p l e rm_X6_lowestOf s m args below meth c D A 3 (MQ below (qcI D A o.1 (wf o.2)) args s 0 0 A) wf 0 0 6 [some (.int x0), none, some (.int x2)] [] w := by
  induction n with
  | zero => intro x0 x2 w hf; cases hf
  | succ n ih =>
    intro x0 x2 w hf
    rw [f_X6_lowestOf_L6] at hf
    refine g_iload_n X (i := 2) dX6_lowestOf_6 rfl rfl ?_
    refine g_bipush X dX6_lowestOf_7 (v := 24) (by decide) ?_
    refine g_icmp_ge X dX6_lowestOf_9 (tgt := 29) (by decide) hf (fun c1 hf => ?_) (fun c1 hf => ?_)
    · refine g_iload_n X (i := 0) dX6_lowestOf_12 rfl rfl ?_
      refine g_iload_n X (i := 2) dX6_lowestOf_13 rfl rfl ?_
      obtain ⟨o2, h3, hf⟩ := hfb hf
      refine g_Si X (As := [.int x2]) (rest := [.int x0]) (c_X6_bit (wf := wf) h3) dX6_lowestOf_14 ml_X6_134 yv_X6_bit rfl rfl ⟨Nat.le_of_ble_eq_true rfl, Nat.le_of_ble_eq_true rfl⟩ ⟨rfl, rfl⟩ (Nat.le_of_ble_eq_true rfl) ⟨Nat.le_of_ble_eq_true rfl, Nat.le_of_ble_eq_true rfl⟩ ?_
      refine g_iand X dX6_lowestOf_17 ?_
      refine g_if_eq X dX6_lowestOf_18 (tgt := 23) (by decide) hf (fun c4 hf => ?_) (fun c4 hf => ?_)
      · refine g_iinc X (i := 2) (v := 1) dX6_lowestOf_23 rfl (by decide) (by decide) rfl ?_
        refine g_goto X dX6_lowestOf_26 (tgt := 6) (by decide) ?_
        exact ih hf
      · refine g_iload_n X (i := 2) dX6_lowestOf_21 rfl rfl ?_
        exact g_iret X hr dX6_lowestOf_22 hf
    · refine g_iconst X dX6_lowestOf_29 (v := (-1)) (by decide) ?_
      exact g_iret X hr dX6_lowestOf_30 hf
set_option maxRecDepth 100000 in
set_option maxHeartbeats 4000000 in
theorem c_X6_lowestOf {l : Launch} {D : va_G} {cI : ClassId × ClassId} {A : Nat → Prop} {Wt : Type} {wf : Wt → va_W} {x1 x2 : Int32} {w : Wt} {o : Int32 × Wt} (hf : f_X6_lowestOf x1 x2 w = some o) : CTi l D cI A yX6_lowestOf cX6_lowestOf 3 (some .int) rm_X6_lowestOf [.int x1, .int x2] (wf w) o.1 (wf o.2)   := by
  refine CTi.of (by decide +kernel) rfl (Nat.le_of_ble_eq_true rfl) ?_
  intro p e s m args below meth c X hr
  have X : gX p s m args meth c cX6_lowestOf 3 RX6 D cI := X
  show G _ _ _ _ _ _ _ _ _ _ _ _ _ _ _ _ _ 0 [some (.int x1), some (.int x2), none] [] w
  unfold f_X6_lowestOf at hf
  refine g_iload_n X (i := 1) dX6_lowestOf_0 rfl rfl ?_
  refine g_iconst X dX6_lowestOf_1 (v := 0) (by decide) ?_
  refine g_max X dX6_lowestOf_2 ml_X6_181 st_max ini_max co_max ⟨Nat.le_of_ble_eq_true rfl, Nat.le_of_ble_eq_true rfl⟩ ⟨Nat.le_of_ble_eq_true rfl, Nat.le_of_ble_eq_true rfl⟩ ?_
  refine g_istore_n X (i := 2) dX6_lowestOf_5 rfl (by decide) rfl ?_
  refine g_sub (losub (lo' := [some (.int x1), none, some (.int (if x2 < 0 then 0 else x2))]) ⟨rfl, rfl, trivial⟩) ?_
  exact gl_X6_lowestOf_L6 X hr BIG hf
def f_J6_bitCount_0f7a4 {Wt : Type} (x1 : Int32) (w : Wt) : Option (Int32 × Wt) := some ((((((((x1 - (((x1.toUInt32 >>> ((1 : Int32).toUInt32 &&& Int32.toUInt32 31)).toInt32) &&& 1431655765)) &&& 858993459) + ((((x1 - (((x1.toUInt32 >>> ((1 : Int32).toUInt32 &&& Int32.toUInt32 31)).toInt32) &&& 1431655765)).toUInt32 >>> ((2 : Int32).toUInt32 &&& Int32.toUInt32 31)).toInt32) &&& 858993459)) + (((((x1 - (((x1.toUInt32 >>> ((1 : Int32).toUInt32 &&& Int32.toUInt32 31)).toInt32) &&& 1431655765)) &&& 858993459) + ((((x1 - (((x1.toUInt32 >>> ((1 : Int32).toUInt32 &&& Int32.toUInt32 31)).toInt32) &&& 1431655765)).toUInt32 >>> ((2 : Int32).toUInt32 &&& Int32.toUInt32 31)).toInt32) &&& 858993459)).toUInt32 >>> ((4 : Int32).toUInt32 &&& Int32.toUInt32 31)).toInt32)) &&& 252645135) + (((((((x1 - (((x1.toUInt32 >>> ((1 : Int32).toUInt32 &&& Int32.toUInt32 31)).toInt32) &&& 1431655765)) &&& 858993459) + ((((x1 - (((x1.toUInt32 >>> ((1 : Int32).toUInt32 &&& Int32.toUInt32 31)).toInt32) &&& 1431655765)).toUInt32 >>> ((2 : Int32).toUInt32 &&& Int32.toUInt32 31)).toInt32) &&& 858993459)) + (((((x1 - (((x1.toUInt32 >>> ((1 : Int32).toUInt32 &&& Int32.toUInt32 31)).toInt32) &&& 1431655765)) &&& 858993459) + ((((x1 - (((x1.toUInt32 >>> ((1 : Int32).toUInt32 &&& Int32.toUInt32 31)).toInt32) &&& 1431655765)).toUInt32 >>> ((2 : Int32).toUInt32 &&& Int32.toUInt32 31)).toInt32) &&& 858993459)).toUInt32 >>> ((4 : Int32).toUInt32 &&& Int32.toUInt32 31)).toInt32)) &&& 252645135).toUInt32 >>> ((8 : Int32).toUInt32 &&& Int32.toUInt32 31)).toInt32)) + ((((((((x1 - (((x1.toUInt32 >>> ((1 : Int32).toUInt32 &&& Int32.toUInt32 31)).toInt32) &&& 1431655765)) &&& 858993459) + ((((x1 - (((x1.toUInt32 >>> ((1 : Int32).toUInt32 &&& Int32.toUInt32 31)).toInt32) &&& 1431655765)).toUInt32 >>> ((2 : Int32).toUInt32 &&& Int32.toUInt32 31)).toInt32) &&& 858993459)) + (((((x1 - (((x1.toUInt32 >>> ((1 : Int32).toUInt32 &&& Int32.toUInt32 31)).toInt32) &&& 1431655765)) &&& 858993459) + ((((x1 - (((x1.toUInt32 >>> ((1 : Int32).toUInt32 &&& Int32.toUInt32 31)).toInt32) &&& 1431655765)).toUInt32 >>> ((2 : Int32).toUInt32 &&& Int32.toUInt32 31)).toInt32) &&& 858993459)).toUInt32 >>> ((4 : Int32).toUInt32 &&& Int32.toUInt32 31)).toInt32)) &&& 252645135) + (((((((x1 - (((x1.toUInt32 >>> ((1 : Int32).toUInt32 &&& Int32.toUInt32 31)).toInt32) &&& 1431655765)) &&& 858993459) + ((((x1 - (((x1.toUInt32 >>> ((1 : Int32).toUInt32 &&& Int32.toUInt32 31)).toInt32) &&& 1431655765)).toUInt32 >>> ((2 : Int32).toUInt32 &&& Int32.toUInt32 31)).toInt32) &&& 858993459)) + (((((x1 - (((x1.toUInt32 >>> ((1 : Int32).toUInt32 &&& Int32.toUInt32 31)).toInt32) &&& 1431655765)) &&& 858993459) + ((((x1 - (((x1.toUInt32 >>> ((1 : Int32).toUInt32 &&& Int32.toUInt32 31)).toInt32) &&& 1431655765)).toUInt32 >>> ((2 : Int32).toUInt32 &&& Int32.toUInt32 31)).toInt32) &&& 858993459)).toUInt32 >>> ((4 : Int32).toUInt32 &&& Int32.toUInt32 31)).toInt32)) &&& 252645135).toUInt32 >>> ((8 : Int32).toUInt32 &&& Int32.toUInt32 31)).toInt32)).toUInt32 >>> ((16 : Int32).toUInt32 &&& Int32.toUInt32 31)).toInt32)) &&& 63, w)
set_option maxRecDepth 100000 in
set_option maxHeartbeats 4000000 in
theorem c_J6_bitCount_0f7a4 {l : Launch} {D : va_G} {cI : ClassId × ClassId} {A : Nat → Prop} {Wt : Type} {wf : Wt → va_W} {x1 : Int32} {w : Wt} {o : Int32 × Wt} (hf : f_J6_bitCount_0f7a4 x1 w = some o) : CTi l D cI A yJ6_bitCount_0f7a4 cJ6_bitCount_0f7a4 1 (some .int) rm_J6_bitCount_0f7a4 [.int x1] (wf w) o.1 (wf o.2)   := by
  refine CTi.of (by decide +kernel) rfl (Nat.le_of_ble_eq_true rfl) ?_
  intro p e s m args below meth c X hr
  have X : gX p s m args meth c cJ6_bitCount_0f7a4 1 RJ6 D cI := X
  show G _ _ _ _ _ _ _ _ _ _ _ _ _ _ _ _ _ 0 [some (.int x1)] [] w
  unfold f_J6_bitCount_0f7a4 at hf
  refine g_iload_n X (i := 0) dJ6_bitCount_0f7a4_0 rfl rfl ?_
  refine g_iload_n X (i := 0) dJ6_bitCount_0f7a4_1 rfl rfl ?_
  refine g_iconst X dJ6_bitCount_0f7a4_2 (v := 1) (by decide) ?_
  refine g_iushr X dJ6_bitCount_0f7a4_3 ?_
  refine g_ldcw X (v := 1431655765) dJ6_bitCount_0f7a4_4 (tb2 9 rfl) ?_
  refine g_iand X dJ6_bitCount_0f7a4_7 ?_
  refine g_isub X dJ6_bitCount_0f7a4_8 ?_
  refine g_istore_n X (i := 0) dJ6_bitCount_0f7a4_9 rfl (by decide) rfl ?_
  refine g_iload_n X (i := 0) dJ6_bitCount_0f7a4_10 rfl rfl ?_
  refine g_ldcw X (v := 858993459) dJ6_bitCount_0f7a4_11 (tb2 10 rfl) ?_
  refine g_iand X dJ6_bitCount_0f7a4_14 ?_
  refine g_iload_n X (i := 0) dJ6_bitCount_0f7a4_15 rfl rfl ?_
  refine g_iconst X dJ6_bitCount_0f7a4_16 (v := 2) (by decide) ?_
  refine g_iushr X dJ6_bitCount_0f7a4_17 ?_
  refine g_ldcw X (v := 858993459) dJ6_bitCount_0f7a4_18 (tb2 10 rfl) ?_
  refine g_iand X dJ6_bitCount_0f7a4_21 ?_
  refine g_iadd X dJ6_bitCount_0f7a4_22 ?_
  refine g_istore_n X (i := 0) dJ6_bitCount_0f7a4_23 rfl (by decide) rfl ?_
  refine g_iload_n X (i := 0) dJ6_bitCount_0f7a4_24 rfl rfl ?_
  refine g_iload_n X (i := 0) dJ6_bitCount_0f7a4_25 rfl rfl ?_
  refine g_iconst X dJ6_bitCount_0f7a4_26 (v := 4) (by decide) ?_
  refine g_iushr X dJ6_bitCount_0f7a4_27 ?_
  refine g_iadd X dJ6_bitCount_0f7a4_28 ?_
  refine g_ldcw X (v := 252645135) dJ6_bitCount_0f7a4_29 (tb2 11 rfl) ?_
  refine g_iand X dJ6_bitCount_0f7a4_32 ?_
  refine g_istore_n X (i := 0) dJ6_bitCount_0f7a4_33 rfl (by decide) rfl ?_
  refine g_iload_n X (i := 0) dJ6_bitCount_0f7a4_34 rfl rfl ?_
  refine g_iload_n X (i := 0) dJ6_bitCount_0f7a4_35 rfl rfl ?_
  refine g_bipush X dJ6_bitCount_0f7a4_36 (v := 8) (by decide) ?_
  refine g_iushr X dJ6_bitCount_0f7a4_38 ?_
  refine g_iadd X dJ6_bitCount_0f7a4_39 ?_
  refine g_istore_n X (i := 0) dJ6_bitCount_0f7a4_40 rfl (by decide) rfl ?_
  refine g_iload_n X (i := 0) dJ6_bitCount_0f7a4_41 rfl rfl ?_
  refine g_iload_n X (i := 0) dJ6_bitCount_0f7a4_42 rfl rfl ?_
  refine g_bipush X dJ6_bitCount_0f7a4_43 (v := 16) (by decide) ?_
  refine g_iushr X dJ6_bitCount_0f7a4_45 ?_
  refine g_iadd X dJ6_bitCount_0f7a4_46 ?_
  refine g_istore_n X (i := 0) dJ6_bitCount_0f7a4_47 rfl (by decide) rfl ?_
  refine g_iload_n X (i := 0) dJ6_bitCount_0f7a4_48 rfl rfl ?_
  refine g_bipush X dJ6_bitCount_0f7a4_49 (v := 63) (by decide) ?_
  refine g_iand X dJ6_bitCount_0f7a4_51 ?_
  exact g_iret X hr dJ6_bitCount_0f7a4_52 hf
def f_L_low {Wt : Type} (x1 x2 : Int32) (w : Wt) : Option (Int32 × Wt) := if ¬ x2 = 0 then some ((x1 &&& 2147483647) - (x1 &&& 2147483647) / x2 * x2, w) else none
set_option maxRecDepth 100000 in
set_option maxHeartbeats 4000000 in
theorem c_L_low {l : Launch} {D : va_G} {cI : ClassId × ClassId} {A : Nat → Prop} {Wt : Type} {wf : Wt → va_W} {x1 x2 : Int32} {w : Wt} {o : Int32 × Wt} (hf : f_L_low x1 x2 w = some o) : CTi l D cI A yL_low cL_low 2 (some .int) rm_L_low [.int x1, .int x2] (wf w) o.1 (wf o.2)   := by
  refine CTi.of (by decide +kernel) rfl (Nat.le_of_ble_eq_true rfl) ?_
  intro p e s m args below meth c X hr
  have X : gX p s m args meth c cL_low 2 RL D cI := X
  show G _ _ _ _ _ _ _ _ _ _ _ _ _ _ _ _ _ 0 [some (.int x1), some (.int x2)] [] w
  unfold f_L_low at hf
  refine g_iload_n X (i := 0) dL_low_0 rfl rfl ?_
  refine g_ldc X (v := 2147483647) dL_low_1 (tb2 19 rfl) ?_
  refine g_iand X dL_low_3 ?_
  refine g_iload_n X (i := 1) dL_low_4 rfl rfl ?_
  obtain ⟨hz1, hf⟩ := hfg hf
  refine g_irem X dL_low_5 hz1 ?_
  exact g_iret X hr dL_low_6 hf
def f_J9_floorMod_7cf53 {Wt : Type} (x1 x2 : Int32) (w : Wt) : Option (Int32 × Wt) := if ¬ x2 = 0 then (if (x1 ^^^ x2) < 0 then (if (x1 - x1 / x2 * x2) = 0 then some (x1 - x1 / x2 * x2, w) else some ((x1 - x1 / x2 * x2) + x2, w)) else some (x1 - x1 / x2 * x2, w)) else none
set_option maxRecDepth 100000 in
set_option maxHeartbeats 4000000 in
theorem c_J9_floorMod_7cf53 {l : Launch} {D : va_G} {cI : ClassId × ClassId} {A : Nat → Prop} {Wt : Type} {wf : Wt → va_W} {x1 x2 : Int32} {w : Wt} {o : Int32 × Wt} (hf : f_J9_floorMod_7cf53 x1 x2 w = some o) : CTi l D cI A yJ9_floorMod_7cf53 cJ9_floorMod_7cf53 3 (some .int) rm_J9_floorMod_7cf53 [.int x1, .int x2] (wf w) o.1 (wf o.2)   := by
  refine CTi.ofF (by decide +kernel) rfl (Nat.le_of_ble_eq_true rfl) ?_
  intro p e s m args below meth c X hr
  have X : gX p s m args meth c cJ9_floorMod_7cf53 3 RJ9 D cI := X
  show G _ _ _ _ _ _ _ _ _ _ _ _ _ _ _ _ _ 0 [some (.int x1), some (.int x2), none] [] w
  unfold f_J9_floorMod_7cf53 at hf
  refine g_iload_n X (i := 0) dJ9_floorMod_7cf53_0 rfl rfl ?_
  refine g_iload_n X (i := 1) dJ9_floorMod_7cf53_1 rfl rfl ?_
  obtain ⟨hz1, hf⟩ := hfg hf
  refine g_irem X dJ9_floorMod_7cf53_2 hz1 ?_
  refine g_istore_n X (i := 2) dJ9_floorMod_7cf53_3 rfl (by decide) rfl ?_
  refine g_iload_n X (i := 0) dJ9_floorMod_7cf53_4 rfl rfl ?_
  refine g_iload_n X (i := 1) dJ9_floorMod_7cf53_5 rfl rfl ?_
  refine g_ixor X dJ9_floorMod_7cf53_6 ?_
  refine g_if_ge X dJ9_floorMod_7cf53_7 (tgt := 18) (by decide) hf (fun c2 hf => ?_) (fun c2 hf => ?_)
  · refine g_iload_n X (i := 2) dJ9_floorMod_7cf53_10 rfl rfl ?_
    refine g_if_eq X dJ9_floorMod_7cf53_11 (tgt := 18) (by decide) hf (fun c3 hf => ?_) (fun c3 hf => ?_)
    · refine g_iload_n X (i := 2) dJ9_floorMod_7cf53_18 rfl rfl ?_
      exact g_iret X hr dJ9_floorMod_7cf53_19 hf
    · refine g_iload_n X (i := 2) dJ9_floorMod_7cf53_14 rfl rfl ?_
      refine g_iload_n X (i := 1) dJ9_floorMod_7cf53_15 rfl rfl ?_
      refine g_iadd X dJ9_floorMod_7cf53_16 ?_
      exact g_iret X hr dJ9_floorMod_7cf53_17 hf
  · refine g_iload_n X (i := 2) dJ9_floorMod_7cf53_18 rfl rfl ?_
    exact g_iret X hr dJ9_floorMod_7cf53_19 hf
