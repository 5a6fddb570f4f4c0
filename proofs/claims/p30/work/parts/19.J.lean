def f_L_searches_L113 : Nat → Int32 → Int32 → Int32 → JT → Option (JT)
  | 0, _, _, _, _ => none
  | n + 1, x11, x12, x13, w => (if x13 < x11 then if ib 0 11 then (if (0 : Int32) < (w.2.2 0 (0 : Int32).toNatClampNeg) then (f_L_go w.2).bind fun o28 => f_L_searches_L113 n x11 x12 (x13 + 1) (w.1, o28.2) else some (w)) else none else some (w))
def f_L_searches_L195 : Nat → Int32 → JT → Option (Int32 × JT)
  | 0, _, _ => none
  | n + 1, x11, w => if ib 0 11 then (if (0 : Int32) < (w.2.2 0 (0 : Int32).toNatClampNeg) then (f_L_go w.2).bind fun o46 => f_L_searches_L195 n (x11 + 1) (w.1, o46.2) else some (x11, w)) else none
def f_L_searches (x1 x2 : Int32) (w : JT) : Option (Int32 × JT) := (if x1 = 0 then if ib 0 11 then (if (0 : Int32) < (w.2.2 0 (0 : Int32).toNatClampNeg) then (f_X6_begin w.1).bind fun o4 => (if o4.1 = (-12) then some (1, (o4.2, w.2)) else some (0, (o4.2, w.2))) else (f_L_start w.2).bind fun o7 => (f_X6_begin w.1).bind fun o9 => if ib 10 11 then (if o9.1 = (o7.2.2 0 (10 : Int32).toNatClampNeg) then some (1, (o9.2, o7.2)) else some (0, (o9.2, o7.2))) else none) else none else (if x1 = 1 then (if (x2 - x2 / 5 * 5) = 0 then some ((99 : Int32)) else some ((5 : Int32))).bind fun o15 => if ¬ o15 = 0 then if ib 0 11 then (if (w.2.2 0 (0 : Int32).toNatClampNeg) = 0 then (f_X6_step (1 + (x2 - x2 / o15 * o15)) w.1).bind fun o21 => (if o21.1 = (-12) then some (1, (o21.2, w.2)) else some (0, (o21.2, w.2))) else if ib 4 11 then (f_L_searches_L113 BIG (1 + (x2 - x2 / o15 * o15)) (w.2.2 0 (4 : Int32).toNatClampNeg) 0 w).bind fun o30 => (f_X6_step (1 + (x2 - x2 / o15 * o15)) o30.1).bind fun o32 => if ib 4 11 then (if o32.1 = ((o30.2.2 0 (4 : Int32).toNatClampNeg) - (w.2.2 0 (4 : Int32).toNatClampNeg)) then some (1, (o32.2, o30.2)) else some (0, (o32.2, o30.2))) else none else none) else none else none else (if x1 = 2 then if ib 0 11 then (if (w.2.2 0 (0 : Int32).toNatClampNeg) = 0 then (f_L_start w.2).bind fun o42 => some ((w.1, o42.2)) else some (w)).bind fun o39 => (f_L_searches_L195 BIG 0 o39).bind fun o48 => (f_X6_all o48.2.1).bind fun o50 => (if o50.1 = o48.1 then some (1, (o50.2, o48.2.2)) else some (0, (o50.2, o48.2.2))) else none else if ib 8 11 then if ib 0 11 then (if (0 : Int32) < (w.2.2 0 (0 : Int32).toNatClampNeg) then some (w.2.2 0 (8 : Int32).toNatClampNeg) else some (1 + (x2 - x2 / 2 * 2))).bind fun o56 => if ib 8 11 then (f_X6_set (1 + (x2 - x2 / 2 * 2)) w.1).bind fun o60 => if ib 0 11 then (if (0 : Int32) < ((sA w.2 0 8 o56).2 0 (0 : Int32).toNatClampNeg) then some (((-12) : Int32)) else some (w.2.2 0 (8 : Int32).toNatClampNeg)).bind fun o64 => (if o60.1 = o64 then some (1, (o60.2, sA w.2 0 8 o56)) else some (0, (o60.2, sA w.2 0 8 o56))) else none else none else none else none)))
set_option maxRecDepth 100000 in
set_option maxHeartbeats 4000000 in
theorem gl_L_searches_L113 {p : Program} {l : Launch} {e : Env} {s : State} {m : MethodId} {args : Array Value} {below : List Frame} {meth : Method} {c : Code} {D : va_G} {A : Nat → Prop} {cI : ClassId × ClassId} {ad : Nat → Nat} {Q : State → Prop} {o : JT} (X : gX p s m args meth c cL_searches 14 RL D cI) (n : Nat) : ∀ {x11 x12 x13 : Int32} {w : JT}, f_L_searches_L113 n x11 x12 x13 w = some o → G p l e rm_L_searches s m args below meth c D A 14 Q (wJ [] ad cI) 0 0 146 [some (.ref (ad 2)), some (.ref (ad 93)), none, none, none, none, none, none, none, none, none, some (.int x11), some (.int x12), none] [] o → G p l e rm_L_searches s m args below meth c D A 14 Q (wJ [] ad cI) 0 0 113 [some (.ref (ad 2)), some (.ref (ad 93)), some (.ref (ad 94)), some (.ref (ad 95)), some (.ref (ad 96)), none, some (.ref (ad 98)), some (.ref (ad 99)), some (.ref (ad 100)), none, none, some (.int x11), some (.int x12), some (.int x13)] [] w := by
  induction n with
  | zero => intro x11 x12 x13 w hf; cases hf
  | succ n ih =>
    intro x11 x12 x13 w hf k
    rw [f_L_searches_L113] at hf
    refine g_iload X dL_searches_113 rfl ?_
    refine g_iload X dL_searches_115 rfl ?_
    refine g_icmp_ge X dL_searches_117 (tgt := 146) (by decide) hf (fun c25 hf => ?_) (fun c25 hf => ?_)
    · refine g_aload_n X (i := 1) dL_searches_120 rfl rfl ?_
      refine g_iconst X dL_searches_121 (v := 0) (by decide) ?_
      obtain ⟨hb26, hf⟩ := hfg hf
      refine g_iald X (q0 := 93) (f := w.2.2 0) dL_searches_122 rfl hb26 ?_
      refine g_if_le X dL_searches_123 (tgt := 146) (by decide) hf (fun c27 hf => ?_) (fun c27 hf => ?_)
      · refine g_aload_n X (i := 1) dL_searches_126 rfl rfl ?_
        refine g_aload_n X (i := 2) dL_searches_127 rfl rfl ?_
        refine g_aload_n X (i := 3) dL_searches_128 rfl rfl ?_
        refine g_aload X dL_searches_129 rfl ?_
        refine g_aload X dL_searches_131 rfl ?_
        refine g_aload X dL_searches_133 rfl ?_
        refine g_aload X dL_searches_135 rfl ?_
        obtain ⟨o28, h29, hf⟩ := hfb hf
        refine g_Sv X (As := [.ref (ad 93), .ref (ad 94), .ref (ad 95), .ref (ad 96), .ref (ad 98), .ref (ad 99), .ref (ad 100)]) (rest := []) (w1 := (w.1, o28.2)) (liftJ_Rv (t := w.1) (c_L_go (ad := adR ad) h29)) dL_searches_137 ml_L_53 yv_L_go rfl rfl ⟨Nat.le_of_ble_eq_true rfl, Nat.le_of_ble_eq_true rfl⟩ ⟨rfl, rfl⟩ (Nat.le_of_ble_eq_true rfl) ⟨Nat.le_of_ble_eq_true rfl, Nat.le_of_ble_eq_true rfl⟩ ?_
        refine g_iinc X (i := 13) (v := 1) dL_searches_140 rfl (by decide) (by decide) rfl ?_
        refine g_goto X dL_searches_143 (tgt := 113) (by decide) ?_
        exact ih hf k
      · obtain rfl := Option.some.inj hf
        refine g_sub (losub (lo' := [some (.ref (ad 2)), some (.ref (ad 93)), none, none, none, none, none, none, none, none, none, some (.int x11), some (.int x12), none]) ⟨rfl, rfl, rfl, rfl, trivial⟩) ?_
        exact k
    · obtain rfl := Option.some.inj hf
      refine g_sub (losub (lo' := [some (.ref (ad 2)), some (.ref (ad 93)), none, none, none, none, none, none, none, none, none, some (.int x11), some (.int x12), none]) ⟨rfl, rfl, rfl, rfl, trivial⟩) ?_
      exact k
set_option maxRecDepth 100000 in
set_option maxHeartbeats 4000000 in
theorem gl_L_searches_L195 {p : Program} {l : Launch} {e : Env} {s : State} {m : MethodId} {args : Array Value} {below : List Frame} {meth : Method} {c : Code} {D : va_G} {A : Nat → Prop} {cI : ClassId × ClassId} {ad : Nat → Nat} {Q : State → Prop} {o : Int32 × JT} (X : gX p s m args meth c cL_searches 14 RL D cI) (n : Nat) : ∀ {x11 : Int32} {w : JT}, f_L_searches_L195 n x11 w = some o → G p l e rm_L_searches s m args below meth c D A 14 Q (wJ [] ad cI) 0 0 221 [some (.ref (ad 2)), none, none, none, none, none, none, none, none, none, none, some (.int o.1), none, none] [] o.2 → G p l e rm_L_searches s m args below meth c D A 14 Q (wJ [] ad cI) 0 0 195 [some (.ref (ad 2)), some (.ref (ad 93)), some (.ref (ad 94)), some (.ref (ad 95)), some (.ref (ad 96)), none, some (.ref (ad 98)), some (.ref (ad 99)), some (.ref (ad 100)), none, none, some (.int x11), none, none] [] w := by
  induction n with
  | zero => intro x11 w hf; cases hf
  | succ n ih =>
    intro x11 w hf k
    rw [f_L_searches_L195] at hf
    refine g_aload_n X (i := 1) dL_searches_195 rfl rfl ?_
    refine g_iconst X dL_searches_196 (v := 0) (by decide) ?_
    obtain ⟨hb44, hf⟩ := hfg hf
    refine g_iald X (q0 := 93) (f := w.2.2 0) dL_searches_197 rfl hb44 ?_
    refine g_if_le X dL_searches_198 (tgt := 221) (by decide) hf (fun c45 hf => ?_) (fun c45 hf => ?_)
    · refine g_aload_n X (i := 1) dL_searches_201 rfl rfl ?_
      refine g_aload_n X (i := 2) dL_searches_202 rfl rfl ?_
      refine g_aload_n X (i := 3) dL_searches_203 rfl rfl ?_
      refine g_aload X dL_searches_204 rfl ?_
      refine g_aload X dL_searches_206 rfl ?_
      refine g_aload X dL_searches_208 rfl ?_
      refine g_aload X dL_searches_210 rfl ?_
      obtain ⟨o46, h47, hf⟩ := hfb hf
      refine g_Sv X (As := [.ref (ad 93), .ref (ad 94), .ref (ad 95), .ref (ad 96), .ref (ad 98), .ref (ad 99), .ref (ad 100)]) (rest := []) (w1 := (w.1, o46.2)) (liftJ_Rv (t := w.1) (c_L_go (ad := adR ad) h47)) dL_searches_212 ml_L_53 yv_L_go rfl rfl ⟨Nat.le_of_ble_eq_true rfl, Nat.le_of_ble_eq_true rfl⟩ ⟨rfl, rfl⟩ (Nat.le_of_ble_eq_true rfl) ⟨Nat.le_of_ble_eq_true rfl, Nat.le_of_ble_eq_true rfl⟩ ?_
      refine g_iinc X (i := 11) (v := 1) dL_searches_215 rfl (by decide) (by decide) rfl ?_
      refine g_goto X dL_searches_218 (tgt := 195) (by decide) ?_
      exact ih hf k
    · obtain rfl := Option.some.inj hf
      refine g_sub (losub (lo' := [some (.ref (ad 2)), none, none, none, none, none, none, none, none, none, none, some (.int x11), none, none]) ⟨rfl, rfl, trivial⟩) ?_
      exact k
set_option maxRecDepth 100000 in
set_option maxHeartbeats 4000000 in
theorem c_L_searches {l : Launch} {D : va_G} {cI : ClassId × ClassId} {A : Nat → Prop} {ad : Nat → Nat} {x1 x2 : Int32} {w : JT} {o : Int32 × JT} (hf : f_L_searches x1 x2 w = some o) : CTi l D cI A yL_searches cL_searches 14 (some .boolean) rm_L_searches [.ref (ad 2), .ref (ad 93), .ref (ad 94), .ref (ad 95), .ref (ad 96), .ref (ad 97), .ref (ad 98), .ref (ad 99), .ref (ad 100), .int x1, .int x2] ((wJ [] ad cI) w) o.1 ((wJ [] ad cI) o.2)   := by
  refine CTi.of (by decide +kernel) rfl (Nat.le_of_ble_eq_true rfl) ?_
  intro p e s m args below meth c X hr
  have X : gX p s m args meth c cL_searches 14 RL D cI := X
  show G _ _ _ _ _ _ _ _ _ _ _ _ _ _ _ _ _ 0 [some (.ref (ad 2)), some (.ref (ad 93)), some (.ref (ad 94)), some (.ref (ad 95)), some (.ref (ad 96)), some (.ref (ad 97)), some (.ref (ad 98)), some (.ref (ad 99)), some (.ref (ad 100)), some (.int x1), some (.int x2), none, none, none] [] w
  unfold f_L_searches at hf
  refine g_iload X dL_searches_0 rfl ?_
  refine g_if_ne X dL_searches_2 (tgt := 56) (by decide) hf (fun c1 hf => ?_) (fun c1 hf => ?_)
  · refine g_aload_n X (i := 1) dL_searches_5 rfl rfl ?_
    refine g_iconst X dL_searches_6 (v := 0) (by decide) ?_
    obtain ⟨hb2, hf⟩ := hfg hf
    refine g_iald X (q0 := 93) (f := w.2.2 0) dL_searches_7 rfl hb2 ?_
    refine g_if_le X dL_searches_8 (tgt := 26) (by decide) hf (fun c3 hf => ?_) (fun c3 hf => ?_)
    · refine g_aload_n X (i := 0) dL_searches_11 rfl rfl ?_
      obtain ⟨o4, h5, hf⟩ := hfb hf
      refine g_Vi X (q0 := 2) (As := []) (rest := []) (w1 := (o4.2, w.2)) (liftJ_T (m := w.2) (c_X6_begin (ad := ad) h5)) dL_searches_12 ml_L_39 yv_X6_begin rfl rfl rfl rfl ⟨Nat.le_of_ble_eq_true rfl, Nat.le_of_ble_eq_true rfl⟩ ⟨rfl, rfl⟩ (Nat.le_of_ble_eq_true rfl) ⟨Nat.le_of_ble_eq_true rfl, Nat.le_of_ble_eq_true rfl⟩ ?_
      refine g_bipush X dL_searches_15 (v := (-12)) (by decide) ?_
      refine g_icmp_ne X dL_searches_17 (tgt := 24) (by decide) hf (fun c6 hf => ?_) (fun c6 hf => ?_)
      · refine g_iconst X dL_searches_20 (v := 1) (by decide) ?_
        refine g_goto X dL_searches_21 (tgt := 25) (by decide) ?_
        exact g_zret X hr dL_searches_25 rfl hf
      · refine g_iconst X dL_searches_24 (v := 0) (by decide) ?_
        exact g_zret X hr dL_searches_25 rfl hf
    · refine g_aload_n X (i := 1) dL_searches_26 rfl rfl ?_
      refine g_aload_n X (i := 3) dL_searches_27 rfl rfl ?_
      refine g_aload X dL_searches_28 rfl ?_
      refine g_aload X dL_searches_30 rfl ?_
      refine g_aload X dL_searches_32 rfl ?_
      refine g_aload X dL_searches_34 rfl ?_
      obtain ⟨o7, h8, hf⟩ := hfb hf
      refine g_Sv X (As := [.ref (ad 93), .ref (ad 95), .ref (ad 97), .ref (ad 98), .ref (ad 99), .ref (ad 100)]) (rest := []) (w1 := (w.1, o7.2)) (liftJ_Rv (t := w.1) (c_L_start (ad := adR ad) h8)) dL_searches_36 ml_L_45 yv_L_start rfl rfl ⟨Nat.le_of_ble_eq_true rfl, Nat.le_of_ble_eq_true rfl⟩ ⟨rfl, rfl⟩ (Nat.le_of_ble_eq_true rfl) ⟨Nat.le_of_ble_eq_true rfl, Nat.le_of_ble_eq_true rfl⟩ ?_
      refine g_aload_n X (i := 0) dL_searches_39 rfl rfl ?_
      obtain ⟨o9, h10, hf⟩ := hfb hf
      refine g_Vi X (q0 := 2) (As := []) (rest := []) (w1 := (o9.2, o7.2)) (liftJ_T (m := o7.2) (c_X6_begin (ad := ad) h10)) dL_searches_40 ml_L_39 yv_X6_begin rfl rfl rfl rfl ⟨Nat.le_of_ble_eq_true rfl, Nat.le_of_ble_eq_true rfl⟩ ⟨rfl, rfl⟩ (Nat.le_of_ble_eq_true rfl) ⟨Nat.le_of_ble_eq_true rfl, Nat.le_of_ble_eq_true rfl⟩ ?_
      refine g_aload_n X (i := 1) dL_searches_43 rfl rfl ?_
      refine g_bipush X dL_searches_44 (v := 10) (by decide) ?_
      obtain ⟨hb11, hf⟩ := hfg hf
      refine g_iald X (q0 := 93) (f := o7.2.2 0) dL_searches_46 rfl hb11 ?_
      refine g_icmp_ne X dL_searches_47 (tgt := 54) (by decide) hf (fun c12 hf => ?_) (fun c12 hf => ?_)
      · refine g_iconst X dL_searches_50 (v := 1) (by decide) ?_
        refine g_goto X dL_searches_51 (tgt := 55) (by decide) ?_
        exact g_zret X hr dL_searches_55 rfl hf
      · refine g_iconst X dL_searches_54 (v := 0) (by decide) ?_
        exact g_zret X hr dL_searches_55 rfl hf
  · refine g_iload X dL_searches_56 rfl ?_
    refine g_iconst X dL_searches_58 (v := 1) (by decide) ?_
    refine g_icmp_ne X dL_searches_59 (tgt := 167) (by decide) hf (fun c13 hf => ?_) (fun c13 hf => ?_)
    · refine g_iconst X dL_searches_62 (v := 1) (by decide) ?_
      refine g_iload X dL_searches_63 rfl ?_
      refine g_iload X dL_searches_65 rfl ?_
      refine g_iconst X dL_searches_67 (v := 5) (by decide) ?_
      refine g_irem X dL_searches_68 (by decide) ?_
      obtain ⟨o15, h16, hf⟩ := hfb hf
      refine g_jn (M := 78) (lo2 := [some (.ref (ad 2)), some (.ref (ad 93)), some (.ref (ad 94)), some (.ref (ad 95)), some (.ref (ad 96)), none, some (.ref (ad 98)), some (.ref (ad 99)), some (.ref (ad 100)), none, none, none, none, none]) (st2 := [.int o15, .int x2, .int 1]) (w2 := w) ?_ (fun K17 => ?_)
      · obtain ⟨hz18, hf⟩ := hfg hf
        refine g_irem X dL_searches_78 hz18 ?_
        refine g_iadd X dL_searches_79 ?_
        refine g_istore X dL_searches_80 (by decide) rfl ?_
        refine g_aload_n X (i := 1) dL_searches_82 rfl rfl ?_
        refine g_iconst X dL_searches_83 (v := 0) (by decide) ?_
        obtain ⟨hb19, hf⟩ := hfg hf
        refine g_iald X (q0 := 93) (f := w.2.2 0) dL_searches_84 rfl hb19 ?_
        refine g_if_ne X dL_searches_85 (tgt := 105) (by decide) hf (fun c20 hf => ?_) (fun c20 hf => ?_)
        · refine g_aload_n X (i := 0) dL_searches_88 rfl rfl ?_
          refine g_iload X dL_searches_89 rfl ?_
          obtain ⟨o21, h22, hf⟩ := hfb hf
          refine g_Vi X (q0 := 2) (As := [.int (1 + (x2 - x2 / o15 * o15))]) (rest := []) (w1 := (o21.2, w.2)) (liftJ_T (m := w.2) (c_X6_step (ad := ad) h22)) dL_searches_91 ml_L_49 yv_X6_step rfl rfl rfl rfl ⟨Nat.le_of_ble_eq_true rfl, Nat.le_of_ble_eq_true rfl⟩ ⟨rfl, rfl⟩ (Nat.le_of_ble_eq_true rfl) ⟨Nat.le_of_ble_eq_true rfl, Nat.le_of_ble_eq_true rfl⟩ ?_
          refine g_bipush X dL_searches_94 (v := (-12)) (by decide) ?_
          refine g_icmp_ne X dL_searches_96 (tgt := 103) (by decide) hf (fun c23 hf => ?_) (fun c23 hf => ?_)
          · refine g_iconst X dL_searches_99 (v := 1) (by decide) ?_
            refine g_goto X dL_searches_100 (tgt := 104) (by decide) ?_
            exact g_zret X hr dL_searches_104 rfl hf
          · refine g_iconst X dL_searches_103 (v := 0) (by decide) ?_
            exact g_zret X hr dL_searches_104 rfl hf
        · refine g_aload_n X (i := 1) dL_searches_105 rfl rfl ?_
          refine g_iconst X dL_searches_106 (v := 4) (by decide) ?_
          obtain ⟨hb24, hf⟩ := hfg hf
          refine g_iald X (q0 := 93) (f := w.2.2 0) dL_searches_107 rfl hb24 ?_
          refine g_istore X dL_searches_108 (by decide) rfl ?_
          refine g_iconst X dL_searches_110 (v := 0) (by decide) ?_
          refine g_istore X dL_searches_111 (by decide) rfl ?_
          obtain ⟨o30, h31, hf⟩ := hfb hf
          refine gl_L_searches_L113 X BIG h31 ?_
          refine g_aload_n X (i := 0) dL_searches_146 rfl rfl ?_
          refine g_iload X dL_searches_147 rfl ?_
          obtain ⟨o32, h33, hf⟩ := hfb hf
          refine g_Vi X (q0 := 2) (As := [.int (1 + (x2 - x2 / o15 * o15))]) (rest := []) (w1 := (o32.2, o30.2)) (liftJ_T (m := o30.2) (c_X6_step (ad := ad) h33)) dL_searches_149 ml_L_49 yv_X6_step rfl rfl rfl rfl ⟨Nat.le_of_ble_eq_true rfl, Nat.le_of_ble_eq_true rfl⟩ ⟨rfl, rfl⟩ (Nat.le_of_ble_eq_true rfl) ⟨Nat.le_of_ble_eq_true rfl, Nat.le_of_ble_eq_true rfl⟩ ?_
          refine g_aload_n X (i := 1) dL_searches_152 rfl rfl ?_
          refine g_iconst X dL_searches_153 (v := 4) (by decide) ?_
          obtain ⟨hb34, hf⟩ := hfg hf
          refine g_iald X (q0 := 93) (f := o30.2.2 0) dL_searches_154 rfl hb34 ?_
          refine g_iload X dL_searches_155 rfl ?_
          refine g_isub X dL_searches_157 ?_
          refine g_icmp_ne X dL_searches_158 (tgt := 165) (by decide) hf (fun c35 hf => ?_) (fun c35 hf => ?_)
          · refine g_iconst X dL_searches_161 (v := 1) (by decide) ?_
            refine g_goto X dL_searches_162 (tgt := 166) (by decide) ?_
            exact g_zret X hr dL_searches_166 rfl hf
          · refine g_iconst X dL_searches_165 (v := 0) (by decide) ?_
            exact g_zret X hr dL_searches_166 rfl hf
      · have hf := h16
        refine g_if_ne X dL_searches_69 (tgt := 77) (by decide) hf (fun c14 hf => ?_) (fun c14 hf => ?_)
        · refine g_bipush X dL_searches_72 (v := 99) (by decide) ?_
          refine g_goto X dL_searches_74 (tgt := 78) (by decide) ?_
          obtain rfl := Option.some.inj hf
          refine g_sub (losub (lo' := [some (.ref (ad 2)), some (.ref (ad 93)), some (.ref (ad 94)), some (.ref (ad 95)), some (.ref (ad 96)), none, some (.ref (ad 98)), some (.ref (ad 99)), some (.ref (ad 100)), none, none, none, none, none]) ⟨rfl, rfl, rfl, rfl, rfl, rfl, rfl, rfl, trivial⟩) ?_
          exact K17
        · refine g_iconst X dL_searches_77 (v := 5) (by decide) ?_
          obtain rfl := Option.some.inj hf
          refine g_sub (losub (lo' := [some (.ref (ad 2)), some (.ref (ad 93)), some (.ref (ad 94)), some (.ref (ad 95)), some (.ref (ad 96)), none, some (.ref (ad 98)), some (.ref (ad 99)), some (.ref (ad 100)), none, none, none, none, none]) ⟨rfl, rfl, rfl, rfl, rfl, rfl, rfl, rfl, trivial⟩) ?_
          exact K17
    · refine g_iload X dL_searches_167 rfl ?_
      refine g_iconst X dL_searches_169 (v := 2) (by decide) ?_
      refine g_icmp_ne X dL_searches_170 (tgt := 236) (by decide) hf (fun c36 hf => ?_) (fun c36 hf => ?_)
      · refine g_iconst X dL_searches_173 (v := 0) (by decide) ?_
        refine g_istore X dL_searches_174 (by decide) rfl ?_
        refine g_aload_n X (i := 1) dL_searches_176 rfl rfl ?_
        refine g_iconst X dL_searches_177 (v := 0) (by decide) ?_
        obtain ⟨hb37, hf⟩ := hfg hf
        refine g_iald X (q0 := 93) (f := w.2.2 0) dL_searches_178 rfl hb37 ?_
        obtain ⟨o39, h40, hf⟩ := hfb hf
        refine g_jn (M := 195) (lo2 := [some (.ref (ad 2)), some (.ref (ad 93)), some (.ref (ad 94)), some (.ref (ad 95)), some (.ref (ad 96)), none, some (.ref (ad 98)), some (.ref (ad 99)), some (.ref (ad 100)), none, none, some (.int 0), none, none]) (st2 := []) (w2 := o39) ?_ (fun K41 => ?_)
        · obtain ⟨o48, h49, hf⟩ := hfb hf
          refine gl_L_searches_L195 X BIG h49 ?_
          refine g_aload_n X (i := 0) dL_searches_221 rfl rfl ?_
          obtain ⟨o50, h51, hf⟩ := hfb hf
          refine g_Vi X (q0 := 2) (As := []) (rest := []) (w1 := (o50.2, o48.2.2)) (liftJ_T (m := o48.2.2) (c_X6_all (ad := ad) h51)) dL_searches_222 ml_L_57 yv_X6_all rfl rfl rfl rfl ⟨Nat.le_of_ble_eq_true rfl, Nat.le_of_ble_eq_true rfl⟩ ⟨rfl, rfl⟩ (Nat.le_of_ble_eq_true rfl) ⟨Nat.le_of_ble_eq_true rfl, Nat.le_of_ble_eq_true rfl⟩ ?_
          refine g_iload X dL_searches_225 rfl ?_
          refine g_icmp_ne X dL_searches_227 (tgt := 234) (by decide) hf (fun c52 hf => ?_) (fun c52 hf => ?_)
          · refine g_iconst X dL_searches_230 (v := 1) (by decide) ?_
            refine g_goto X dL_searches_231 (tgt := 235) (by decide) ?_
            exact g_zret X hr dL_searches_235 rfl hf
          · refine g_iconst X dL_searches_234 (v := 0) (by decide) ?_
            exact g_zret X hr dL_searches_235 rfl hf
        · have hf := h40
          refine g_if_ne X dL_searches_179 (tgt := 195) (by decide) hf (fun c38 hf => ?_) (fun c38 hf => ?_)
          · refine g_aload_n X (i := 1) dL_searches_182 rfl rfl ?_
            refine g_aload_n X (i := 3) dL_searches_183 rfl rfl ?_
            refine g_aload X dL_searches_184 rfl ?_
            refine g_aload X dL_searches_186 rfl ?_
            refine g_aload X dL_searches_188 rfl ?_
            refine g_aload X dL_searches_190 rfl ?_
            obtain ⟨o42, h43, hf⟩ := hfb hf
            refine g_Sv X (As := [.ref (ad 93), .ref (ad 95), .ref (ad 97), .ref (ad 98), .ref (ad 99), .ref (ad 100)]) (rest := []) (w1 := (w.1, o42.2)) (liftJ_Rv (t := w.1) (c_L_start (ad := adR ad) h43)) dL_searches_192 ml_L_45 yv_L_start rfl rfl ⟨Nat.le_of_ble_eq_true rfl, Nat.le_of_ble_eq_true rfl⟩ ⟨rfl, rfl⟩ (Nat.le_of_ble_eq_true rfl) ⟨Nat.le_of_ble_eq_true rfl, Nat.le_of_ble_eq_true rfl⟩ ?_
            obtain rfl := Option.some.inj hf
            refine g_sub (losub (lo' := [some (.ref (ad 2)), some (.ref (ad 93)), some (.ref (ad 94)), some (.ref (ad 95)), some (.ref (ad 96)), none, some (.ref (ad 98)), some (.ref (ad 99)), some (.ref (ad 100)), none, none, some (.int 0), none, none]) ⟨rfl, rfl, rfl, rfl, rfl, rfl, rfl, rfl, rfl, trivial⟩) ?_
            exact K41
          · obtain rfl := Option.some.inj hf
            refine g_sub (losub (lo' := [some (.ref (ad 2)), some (.ref (ad 93)), some (.ref (ad 94)), some (.ref (ad 95)), some (.ref (ad 96)), none, some (.ref (ad 98)), some (.ref (ad 99)), some (.ref (ad 100)), none, none, some (.int 0), none, none]) ⟨rfl, rfl, rfl, rfl, rfl, rfl, rfl, rfl, rfl, trivial⟩) ?_
            exact K41
      · refine g_aload_n X (i := 1) dL_searches_236 rfl rfl ?_
        refine g_bipush X dL_searches_237 (v := 8) (by decide) ?_
        obtain ⟨hb53, hf⟩ := hfg hf
        refine g_iald X (q0 := 93) (f := w.2.2 0) dL_searches_239 rfl hb53 ?_
        refine g_istore X dL_searches_240 (by decide) rfl ?_
        refine g_aload_n X (i := 1) dL_searches_242 rfl rfl ?_
        refine g_bipush X dL_searches_243 (v := 8) (by decide) ?_
        refine g_aload_n X (i := 1) dL_searches_245 rfl rfl ?_
        refine g_iconst X dL_searches_246 (v := 0) (by decide) ?_
        obtain ⟨hb54, hf⟩ := hfg hf
        refine g_iald X (q0 := 93) (f := w.2.2 0) dL_searches_247 rfl hb54 ?_
        obtain ⟨o56, h57, hf⟩ := hfb hf
        refine g_jn (M := 262) (lo2 := [some (.ref (ad 2)), some (.ref (ad 93)), none, none, none, none, none, none, none, none, some (.int x2), some (.int (w.2.2 0 (8 : Int32).toNatClampNeg)), none, none]) (st2 := [.int o56, .int 8, .ref (ad 93)]) (w2 := w) ?_ (fun K58 => ?_)
        · obtain ⟨hb59, hf⟩ := hfg hf
          refine g_iast X (q0 := 93) (f := w.2.2 0) dL_searches_262 rfl hb59 (awJ_0 ad cI _ _ _) ?_
          refine g_aload_n X (i := 0) dL_searches_263 rfl rfl ?_
          refine g_iconst X dL_searches_264 (v := 1) (by decide) ?_
          refine g_iload X dL_searches_265 rfl ?_
          refine g_iconst X dL_searches_267 (v := 2) (by decide) ?_
          refine g_irem X dL_searches_268 (by decide) ?_
          refine g_iadd X dL_searches_269 ?_
          obtain ⟨o60, h61, hf⟩ := hfb hf
          refine g_Vi X (q0 := 2) (As := [.int (1 + (x2 - x2 / 2 * 2))]) (rest := []) (w1 := (o60.2, sA w.2 0 8 o56)) (liftJ_T (m := sA w.2 0 8 o56) (c_X6_set (ad := ad) h61)) dL_searches_270 ml_L_60 yv_X6_set rfl rfl rfl rfl ⟨Nat.le_of_ble_eq_true rfl, Nat.le_of_ble_eq_true rfl⟩ ⟨rfl, rfl⟩ (Nat.le_of_ble_eq_true rfl) ⟨Nat.le_of_ble_eq_true rfl, Nat.le_of_ble_eq_true rfl⟩ ?_
          refine g_aload_n X (i := 1) dL_searches_273 rfl rfl ?_
          refine g_iconst X dL_searches_274 (v := 0) (by decide) ?_
          obtain ⟨hb62, hf⟩ := hfg hf
          refine g_iald X (q0 := 93) (f := (sA w.2 0 8 o56).2 0) dL_searches_275 rfl hb62 ?_
          obtain ⟨o64, h65, hf⟩ := hfb hf
          refine g_jn (M := 286) (lo2 := [none, none, none, none, none, none, none, none, none, none, none, none, none, none]) (st2 := [.int o64, .int o60.1]) (w2 := (o60.2, sA w.2 0 8 o56)) ?_ (fun K66 => ?_)
          · refine g_icmp_ne X dL_searches_286 (tgt := 293) (by decide) hf (fun c67 hf => ?_) (fun c67 hf => ?_)
            · refine g_iconst X dL_searches_289 (v := 1) (by decide) ?_
              refine g_goto X dL_searches_290 (tgt := 294) (by decide) ?_
              exact g_zret X hr dL_searches_294 rfl hf
            · refine g_iconst X dL_searches_293 (v := 0) (by decide) ?_
              exact g_zret X hr dL_searches_294 rfl hf
          · have hf := h65
            refine g_if_le X dL_searches_276 (tgt := 284) (by decide) hf (fun c63 hf => ?_) (fun c63 hf => ?_)
            · refine g_bipush X dL_searches_279 (v := (-12)) (by decide) ?_
              refine g_goto X dL_searches_281 (tgt := 286) (by decide) ?_
              obtain rfl := Option.some.inj hf
              refine g_sub (losub (lo' := [none, none, none, none, none, none, none, none, none, none, none, none, none, none]) trivial) ?_
              exact K66
            · refine g_iload X dL_searches_284 rfl ?_
              obtain rfl := Option.some.inj hf
              refine g_sub (losub (lo' := [none, none, none, none, none, none, none, none, none, none, none, none, none, none]) trivial) ?_
              exact K66
        · have hf := h57
          refine g_if_le X dL_searches_248 (tgt := 256) (by decide) hf (fun c55 hf => ?_) (fun c55 hf => ?_)
          · refine g_iload X dL_searches_251 rfl ?_
            refine g_goto X dL_searches_253 (tgt := 262) (by decide) ?_
            obtain rfl := Option.some.inj hf
            refine g_sub (losub (lo' := [some (.ref (ad 2)), some (.ref (ad 93)), none, none, none, none, none, none, none, none, some (.int x2), some (.int (w.2.2 0 (8 : Int32).toNatClampNeg)), none, none]) ⟨rfl, rfl, rfl, rfl, trivial⟩) ?_
            exact K58
          · refine g_iconst X dL_searches_256 (v := 1) (by decide) ?_
            refine g_iload X dL_searches_257 rfl ?_
            refine g_iconst X dL_searches_259 (v := 2) (by decide) ?_
            refine g_irem X dL_searches_260 (by decide) ?_
            refine g_iadd X dL_searches_261 ?_
            obtain rfl := Option.some.inj hf
            refine g_sub (losub (lo' := [some (.ref (ad 2)), some (.ref (ad 93)), none, none, none, none, none, none, none, none, some (.int x2), some (.int (w.2.2 0 (8 : Int32).toNatClampNeg)), none, none]) ⟨rfl, rfl, rfl, rfl, trivial⟩) ?_
            exact K58
def f_L_writes_L42 : Nat → Int32 → Int32 → Int32 → Int32 → Int32 → Int32 → JT → Option (Int32 × Int32 × JT)
  | 0, _, _, _, _, _, _, _ => none
  | n + 1, x9, x10, x11, x12, x13, x14, w => (if x14 < 24 then (if (0 : Int32) < (x10 - x10 / 7 * 7) then (if ((x11 >>> (x12 &&& 31)) &&& 1) = 1 then some (x12) else some ((x12 + 1) - (x12 + 1) / 24 * 24)).bind fun o10 => (if x13 < 0 then some (x13) else (if ((x11 >>> (x13 &&& 31)) &&& 1) = 1 then some (x13) else some ((x13 + 1) - (x13 + 1) / 24 * 24))).bind fun o14 => f_L_writes_L42 n x9 x10 x11 o10 o14 (x14 + 1) w else some (x12, x13, w)) else some (x12, x13, w))
def f_L_writes_L608 : Nat → Int32 → Int32 → Int32 → JT → Option (Int32 × JT)
  | 0, _, _, _, _ => none
  | n + 1, x12, x17, x18, w => (if x18 < 24 then if ib x18 24 then (if (w.2.2 2 x18.toNatClampNeg) < 0 then some ((0 : Int32)) else if ib x18 24 then some (w.2.2 3 x18.toNatClampNeg) else none).bind fun o160 => f_L_writes_L608 n x12 (x17 + o160) (x18 + 1) w else none else some (x17, w))
def f_L_writes_L715 : Nat → Int32 → Int32 → Int32 → JT → Option (JT)
  | 0, _, _, _, _ => none
  | n + 1, x17, x18, x19, w => if ib 9 11 then (if x19 < (w.2.2 0 (9 : Int32).toNatClampNeg) then if ib (x19 + 1) 24 then if ib x19 24 then f_L_writes_L715 n x17 x18 (x19 + 1) (w.1, sA w.2 5 x19 (w.2.2 5 (x19 + 1).toNatClampNeg)) else none else none else some (w)) else none
def f_L_writes (x1 x2 : Int32) (w : JT) : Option (Int32 × JT) := (f_L_reached w.2).bind fun o1 => (if (x2 - x2 / 5 * 5) = 0 then some (((-1) : Int32)) else some ((x2 / 24) - (x2 / 24) / 24 * 24)).bind fun o4 => (f_L_writes_L42 BIG x1 x2 o1.1 (x2 - x2 / 24 * 24) o4 0 (w.1, o1.2)).bind fun o18 => (if o18.2.1 < 0 then some ((1 : Int32)) else (if ((o1.1 >>> (o18.2.1 &&& 31)) &&& 1) = 1 then some ((1 : Int32)) else some ((0 : Int32)))).bind fun o21 => (if o18.2.1 < 0 then some (((-12) : Int32)) else if ib o18.2.1 24 then (if (o18.2.2.2.2 2 o18.2.1.toNatClampNeg) < 0 then some (((-11) : Int32)) else some (((-12) : Int32))) else none).bind fun o26 => (if x1 = 0 then if ib o18.1 24 then (if (o18.2.2.2.2 2 o18.1.toNatClampNeg) < 0 then (f_X6_field o18.1 ((x2 / 576) - (x2 / 576) / 3 * 3) o18.2.1 o18.2.2.1).bind fun o34 => if ib o18.1 24 then (if (o18.2.2.2.2 2 o18.1.toNatClampNeg) < 0 then some (((-11) : Int32)) else (if o26 = (-11) then (if o21 = 0 then some (((-11) : Int32)) else some (((-12) : Int32))) else some (((-12) : Int32)))).bind fun o38 => (if o34.1 = o38 then some (1, (o34.2, o18.2.2.2)) else some (0, (o34.2, o18.2.2.2))) else none else (if ((o1.1 >>> (o18.1 &&& 31)) &&& 1) = 0 then (f_X6_field o18.1 ((x2 / 576) - (x2 / 576) / 3 * 3) o18.2.1 o18.2.2.1).bind fun o45 => if ib o18.1 24 then (if (o18.2.2.2.2 2 o18.1.toNatClampNeg) < 0 then some (((-11) : Int32)) else (if o26 = (-11) then (if o21 = 0 then some (((-11) : Int32)) else some (((-12) : Int32))) else some (((-12) : Int32)))).bind fun o49 => (if o45.1 = o49 then some (1, (o45.2, o18.2.2.2)) else some (0, (o45.2, o18.2.2.2))) else none else (if o21 = 0 then (f_X6_field o18.1 ((x2 / 576) - (x2 / 576) / 3 * 3) o18.2.1 o18.2.2.1).bind fun o56 => if ib o18.1 24 then (if (o18.2.2.2.2 2 o18.1.toNatClampNeg) < 0 then some (((-11) : Int32)) else (if o26 = (-11) then (if o21 = 0 then some (((-11) : Int32)) else some (((-12) : Int32))) else some (((-12) : Int32)))).bind fun o60 => (if o56.1 = o60 then some (1, (o56.2, o18.2.2.2)) else some (0, (o56.2, o18.2.2.2))) else none else (f_L_at ((3 * o18.1) + ((x2 / 576) - (x2 / 576) / 3 * 3)) o18.2.2.2).bind fun o66 => (f_L_put ((3 * o18.1) + ((x2 / 576) - (x2 / 576) / 3 * 3)) o18.2.1 o66.2).bind fun o68 => if ib o18.1 24 then (if (o68.2.2 2 o18.1.toNatClampNeg) = 2 then some ((1 : Int32)) else some ((0 : Int32))).bind fun o72 => (f_L_care o66.1 o18.2.1 o72 o68.2).bind fun o75 => (f_X6_field o18.1 ((x2 / 576) - (x2 / 576) / 3 * 3) o18.2.1 o18.2.2.1).bind fun o77 => (if o77.1 = o66.1 then some (1, (o77.2, o75.2)) else some (0, (o77.2, o75.2))) else none))) else none else (if x1 = 1 then (f_X6_root ((x2 / 576) - (x2 / 576) / 4 * 4) o18.2.1 o18.2.2.1).bind fun o81 => (if o21 = 0 then some (o26, (o81.2, o18.2.2.2)) else (f_L_writeRoot ((x2 / 576) - (x2 / 576) / 4 * 4) o18.2.1 o18.2.2.2).bind fun o87 => some (o87.1, (o81.2, o87.2))).bind fun o84 => (if o81.1 = o84.1 then some (1, o84.2) else some (0, o84.2)) else (if x1 = 2 then if ib (4 + ((x2 / 576) - (x2 / 576) / 4 * 4)) 8 then (if o21 = 0 then some (o18.2.2.2.2 7 (4 + ((x2 / 576) - (x2 / 576) / 4 * 4)).toNatClampNeg) else some (o18.2.1)).bind fun o93 => if ib (4 + ((x2 / 576) - (x2 / 576) / 4 * 4)) 8 then (f_X6_weak ((x2 / 576) - (x2 / 576) / 4 * 4) o18.2.1 o18.2.2.1).bind fun o97 => (if o21 = 0 then some (o26) else some (o18.2.2.2.2 7 (4 + ((x2 / 576) - (x2 / 576) / 4 * 4)).toNatClampNeg)).bind fun o100 => (if o97.1 = o100 then some (1, (o97.2, sA o18.2.2.2 7 (4 + ((x2 / 576) - (x2 / 576) / 4 * 4)) o93)) else some (0, (o97.2, sA o18.2.2.2 7 (4 + ((x2 / 576) - (x2 / 576) / 4 * 4)) o93))) else none else none else (if x1 = 3 then if ib (4 + (x2 - x2 / 4 * 4)) 8 then (if (o18.2.2.2.2 7 (4 + (x2 - x2 / 4 * 4)).toNatClampNeg) < 0 then (f_X6_ask (x2 - x2 / 4 * 4) ((x2 / 576) - (x2 / 576) / 4 * 4) o18.2.2.1).bind fun o107 => (if o107.1 = (-14) then some (1, (o107.2, o18.2.2.2)) else some (0, (o107.2, o18.2.2.2))) else (f_L_writeRoot ((x2 / 576) - (x2 / 576) / 4 * 4) (o18.2.2.2.2 7 (4 + (x2 - x2 / 4 * 4)).toNatClampNeg) o18.2.2.2).bind fun o110 => if ib 0 11 then (if (o110.2.2 0 (0 : Int32).toNatClampNeg) = 1 then (f_L_shade (o18.2.2.2.2 7 (4 + (x2 - x2 / 4 * 4)).toNatClampNeg) o110.2).bind fun o117 => some ((o18.2.2.1, o117.2)) else if ib 0 11 then (if (o110.2.2 0 (0 : Int32).toNatClampNeg) = 2 then (f_L_shade (o18.2.2.2.2 7 (4 + (x2 - x2 / 4 * 4)).toNatClampNeg) o110.2).bind fun o121 => some ((o18.2.2.1, o121.2)) else some ((o18.2.2.1, o110.2))) else none).bind fun o114 => (f_X6_ask (x2 - x2 / 4 * 4) ((x2 / 576) - (x2 / 576) / 4 * 4) o114.1).bind fun o123 => (if o123.1 = (o18.2.2.2.2 7 (4 + (x2 - x2 / 4 * 4)).toNatClampNeg) then some (1, (o123.2, o114.2)) else some (0, (o123.2, o114.2))) else none) else none else (if x1 = 4 then if ib o18.1 24 then (if (o18.2.2.2.2 2 o18.1.toNatClampNeg) < 0 then (f_X6_want o18.1 o18.2.2.1).bind fun o129 => if ib o18.1 24 then (if (o18.2.2.2.2 2 o18.1.toNatClampNeg) < 0 then some (((-11) : Int32)) else some (((-12) : Int32))).bind fun o133 => (if o129.1 = o133 then some (1, (o129.2, o18.2.2.2)) else some (0, (o129.2, o18.2.2.2))) else none else (if ((o1.1 >>> (o18.1 &&& 31)) &&& 1) = 0 then (f_X6_want o18.1 o18.2.2.1).bind fun o138 => if ib o18.1 24 then (if (o18.2.2.2.2 2 o18.1.toNatClampNeg) < 0 then some (((-11) : Int32)) else some (((-12) : Int32))).bind fun o142 => (if o138.1 = o142 then some (1, (o138.2, o18.2.2.2)) else some (0, (o138.2, o18.2.2.2))) else none else if ib o18.1 24 then (if (o18.2.2.2.2 3 o18.1.toNatClampNeg) = 1 then (f_X6_want o18.1 o18.2.2.1).bind fun o148 => if ib o18.1 24 then (if (o18.2.2.2.2 2 o18.1.toNatClampNeg) < 0 then some (((-11) : Int32)) else some (((-12) : Int32))).bind fun o152 => (if o148.1 = o152 then some (1, (o148.2, o18.2.2.2)) else some (0, (o148.2, o18.2.2.2))) else none else if ib o18.1 24 then (f_L_writes_L608 BIG o18.1 0 0 (o18.2.2.1, sA o18.2.2.2 3 o18.1 1)).bind fun o164 => (f_X6_want o18.1 o164.2.1).bind fun o166 => (if o166.1 = o164.1 then some (1, (o166.2, o164.2.2)) else some (0, (o166.2, o164.2.2))) else none) else none)) else none else (if (x2 - x2 / 3 * 3) = 0 then some (((-1) : Int32)) else some ((x2 / 576) - (x2 / 576) / 4 * 4)).bind fun o170 => if ib 9 11 then (if (o18.2.2.2.2 0 (9 : Int32).toNatClampNeg) = 0 then (f_X6_finish o170 o18.2.2.1).bind fun o175 => (if o175.1 = (-12) then some (1, (o175.2, o18.2.2.2)) else some (0, (o175.2, o18.2.2.2))) else if ib 0 24 then if ib 9 11 then if ib 9 11 then (f_L_writes_L715 BIG o170 (o18.2.2.2.2 5 (0 : Int32).toNatClampNeg) 0 (o18.2.2.1, sA o18.2.2.2 0 9 ((o18.2.2.2.2 0 (9 : Int32).toNatClampNeg) - 1))).bind fun o185 => (if o170 < 0 then some (o185) else (f_L_writeRoot o170 (o18.2.2.2.2 5 (0 : Int32).toNatClampNeg) o185.2).bind fun o191 => some ((o185.1, o191.2))).bind fun o188 => if ib 0 11 then (if (o188.2.2 0 (0 : Int32).toNatClampNeg) = 1 then (f_L_shade (o18.2.2.2.2 5 (0 : Int32).toNatClampNeg) o188.2).bind fun o198 => some ((o188.1, o198.2)) else if ib 0 11 then (if (o188.2.2 0 (0 : Int32).toNatClampNeg) = 2 then (f_L_shade (o18.2.2.2.2 5 (0 : Int32).toNatClampNeg) o188.2).bind fun o202 => some ((o188.1, o202.2)) else some (o188)) else none).bind fun o195 => if ib 5 11 then if ib 5 11 then (f_X6_finish o170 o195.1).bind fun o206 => (if o206.1 = (o18.2.2.2.2 5 (0 : Int32).toNatClampNeg) then some (1, (o206.2, sA o195.2 0 5 ((o195.2.2 0 (5 : Int32).toNatClampNeg) + 1))) else some (0, (o206.2, sA o195.2 0 5 ((o195.2.2 0 (5 : Int32).toNatClampNeg) + 1)))) else none else none else none else none else none else none) else none)))))
set_option maxRecDepth 100000 in
set_option maxHeartbeats 4000000 in
theorem gl_L_writes_L42 {p : Program} {l : Launch} {e : Env} {s : State} {m : MethodId} {args : Array Value} {below : List Frame} {meth : Method} {c : Code} {D : va_G} {A : Nat → Prop} {cI : ClassId × ClassId} {ad : Nat → Nat} {Q : State → Prop} {o : Int32 × Int32 × JT} (X : gX p s m args meth c cL_writes 20 RL D cI) (n : Nat) : ∀ {x9 x10 x11 x12 x13 x14 : Int32} {w : JT}, f_L_writes_L42 n x9 x10 x11 x12 x13 x14 w = some o → G p l e rm_L_writes s m args below meth c D A 20 Q (wJ [] ad cI) 0 0 118 [some (.ref (ad 2)), some (.ref (ad 93)), some (.ref (ad 94)), some (.ref (ad 95)), some (.ref (ad 96)), none, some (.ref (ad 98)), some (.ref (ad 99)), some (.ref (ad 100)), some (.int x9), some (.int x10), some (.int x11), some (.int o.1), some (.int o.2.1), none, none, none, none, none, none] [] o.2.2 → G p l e rm_L_writes s m args below meth c D A 20 Q (wJ [] ad cI) 0 0 42 [some (.ref (ad 2)), some (.ref (ad 93)), some (.ref (ad 94)), some (.ref (ad 95)), some (.ref (ad 96)), none, some (.ref (ad 98)), some (.ref (ad 99)), some (.ref (ad 100)), some (.int x9), some (.int x10), some (.int x11), some (.int x12), some (.int x13), some (.int x14), none, none, none, none, none] [] w := by
  induction n with
  | zero => intro x9 x10 x11 x12 x13 x14 w hf; cases hf
  | succ n ih =>
    intro x9 x10 x11 x12 x13 x14 w hf k
    rw [f_L_writes_L42] at hf
    refine g_iload X dL_writes_42 rfl ?_
    refine g_bipush X dL_writes_44 (v := 24) (by decide) ?_
    refine g_icmp_ge X dL_writes_46 (tgt := 118) (by decide) hf (fun c7 hf => ?_) (fun c7 hf => ?_)
    · refine g_iload X dL_writes_49 rfl ?_
      refine g_bipush X dL_writes_51 (v := 7) (by decide) ?_
      refine g_irem X dL_writes_53 (by decide) ?_
      refine g_if_le X dL_writes_54 (tgt := 118) (by decide) hf (fun c8 hf => ?_) (fun c8 hf => ?_)
      · refine g_iload X dL_writes_57 rfl ?_
        refine g_iload X dL_writes_59 rfl ?_
        refine g_ishr X dL_writes_61 ?_
        refine g_iconst X dL_writes_62 (v := 1) (by decide) ?_
        refine g_iand X dL_writes_63 ?_
        refine g_iconst X dL_writes_64 (v := 1) (by decide) ?_
        obtain ⟨o10, h11, hf⟩ := hfb hf
        refine g_jn (M := 80) (lo2 := [some (.ref (ad 2)), some (.ref (ad 93)), some (.ref (ad 94)), some (.ref (ad 95)), some (.ref (ad 96)), none, some (.ref (ad 98)), some (.ref (ad 99)), some (.ref (ad 100)), some (.int x9), some (.int x10), some (.int x11), none, some (.int x13), some (.int x14), none, none, none, none, none]) (st2 := [.int o10]) (w2 := w) ?_ (fun K12 => ?_)
        · refine g_istore X dL_writes_80 (by decide) rfl ?_
          refine g_iload X dL_writes_82 rfl ?_
          obtain ⟨o14, h15, hf⟩ := hfb hf
          refine g_jn (M := 110) (lo2 := [some (.ref (ad 2)), some (.ref (ad 93)), some (.ref (ad 94)), some (.ref (ad 95)), some (.ref (ad 96)), none, some (.ref (ad 98)), some (.ref (ad 99)), some (.ref (ad 100)), some (.int x9), some (.int x10), some (.int x11), some (.int o10), none, some (.int x14), none, none, none, none, none]) (st2 := [.int o14]) (w2 := w) ?_ (fun K16 => ?_)
          · refine g_istore X dL_writes_110 (by decide) rfl ?_
            refine g_iinc X (i := 14) (v := 1) dL_writes_112 rfl (by decide) (by decide) rfl ?_
            refine g_goto X dL_writes_115 (tgt := 42) (by decide) ?_
            exact ih hf k
          · have hf := h15
            refine g_if_lt X dL_writes_84 (tgt := 98) (by decide) hf (fun c13 hf => ?_) (fun c13 hf => ?_)
            · refine g_iload X dL_writes_98 rfl ?_
              refine g_goto X dL_writes_100 (tgt := 110) (by decide) ?_
              obtain rfl := Option.some.inj hf
              refine g_sub (losub (lo' := [some (.ref (ad 2)), some (.ref (ad 93)), some (.ref (ad 94)), some (.ref (ad 95)), some (.ref (ad 96)), none, some (.ref (ad 98)), some (.ref (ad 99)), some (.ref (ad 100)), some (.int x9), some (.int x10), some (.int x11), some (.int o10), none, some (.int x14), none, none, none, none, none]) ⟨rfl, rfl, rfl, rfl, rfl, rfl, rfl, rfl, rfl, rfl, rfl, rfl, rfl, trivial⟩) ?_
              exact K16
            · refine g_iload X dL_writes_87 rfl ?_
              refine g_iload X dL_writes_89 rfl ?_
              refine g_ishr X dL_writes_91 ?_
              refine g_iconst X dL_writes_92 (v := 1) (by decide) ?_
              refine g_iand X dL_writes_93 ?_
              refine g_iconst X dL_writes_94 (v := 1) (by decide) ?_
              refine g_icmp_ne X dL_writes_95 (tgt := 103) (by decide) hf (fun c17 hf => ?_) (fun c17 hf => ?_)
              · refine g_iload X dL_writes_98 rfl ?_
                refine g_goto X dL_writes_100 (tgt := 110) (by decide) ?_
                obtain rfl := Option.some.inj hf
                refine g_sub (losub (lo' := [some (.ref (ad 2)), some (.ref (ad 93)), some (.ref (ad 94)), some (.ref (ad 95)), some (.ref (ad 96)), none, some (.ref (ad 98)), some (.ref (ad 99)), some (.ref (ad 100)), some (.int x9), some (.int x10), some (.int x11), some (.int o10), none, some (.int x14), none, none, none, none, none]) ⟨rfl, rfl, rfl, rfl, rfl, rfl, rfl, rfl, rfl, rfl, rfl, rfl, rfl, trivial⟩) ?_
                exact K16
              · refine g_iload X dL_writes_103 rfl ?_
                refine g_iconst X dL_writes_105 (v := 1) (by decide) ?_
                refine g_iadd X dL_writes_106 ?_
                refine g_bipush X dL_writes_107 (v := 24) (by decide) ?_
                refine g_irem X dL_writes_109 (by decide) ?_
                obtain rfl := Option.some.inj hf
                refine g_sub (losub (lo' := [some (.ref (ad 2)), some (.ref (ad 93)), some (.ref (ad 94)), some (.ref (ad 95)), some (.ref (ad 96)), none, some (.ref (ad 98)), some (.ref (ad 99)), some (.ref (ad 100)), some (.int x9), some (.int x10), some (.int x11), some (.int o10), none, some (.int x14), none, none, none, none, none]) ⟨rfl, rfl, rfl, rfl, rfl, rfl, rfl, rfl, rfl, rfl, rfl, rfl, rfl, trivial⟩) ?_
                exact K16
        · have hf := h11
          refine g_icmp_ne X dL_writes_65 (tgt := 73) (by decide) hf (fun c9 hf => ?_) (fun c9 hf => ?_)
          · refine g_iload X dL_writes_68 rfl ?_
            refine g_goto X dL_writes_70 (tgt := 80) (by decide) ?_
            obtain rfl := Option.some.inj hf
            refine g_sub (losub (lo' := [some (.ref (ad 2)), some (.ref (ad 93)), some (.ref (ad 94)), some (.ref (ad 95)), some (.ref (ad 96)), none, some (.ref (ad 98)), some (.ref (ad 99)), some (.ref (ad 100)), some (.int x9), some (.int x10), some (.int x11), none, some (.int x13), some (.int x14), none, none, none, none, none]) ⟨rfl, rfl, rfl, rfl, rfl, rfl, rfl, rfl, rfl, rfl, rfl, rfl, rfl, trivial⟩) ?_
            exact K12
          · refine g_iload X dL_writes_73 rfl ?_
            refine g_iconst X dL_writes_75 (v := 1) (by decide) ?_
            refine g_iadd X dL_writes_76 ?_
            refine g_bipush X dL_writes_77 (v := 24) (by decide) ?_
            refine g_irem X dL_writes_79 (by decide) ?_
            obtain rfl := Option.some.inj hf
            refine g_sub (losub (lo' := [some (.ref (ad 2)), some (.ref (ad 93)), some (.ref (ad 94)), some (.ref (ad 95)), some (.ref (ad 96)), none, some (.ref (ad 98)), some (.ref (ad 99)), some (.ref (ad 100)), some (.int x9), some (.int x10), some (.int x11), none, some (.int x13), some (.int x14), none, none, none, none, none]) ⟨rfl, rfl, rfl, rfl, rfl, rfl, rfl, rfl, rfl, rfl, rfl, rfl, rfl, trivial⟩) ?_
            exact K12
      · obtain rfl := Option.some.inj hf
        refine g_sub (losub (lo' := [some (.ref (ad 2)), some (.ref (ad 93)), some (.ref (ad 94)), some (.ref (ad 95)), some (.ref (ad 96)), none, some (.ref (ad 98)), some (.ref (ad 99)), some (.ref (ad 100)), some (.int x9), some (.int x10), some (.int x11), some (.int x12), some (.int x13), none, none, none, none, none, none]) ⟨rfl, rfl, rfl, rfl, rfl, rfl, rfl, rfl, rfl, rfl, rfl, rfl, rfl, trivial⟩) ?_
        exact k
    · obtain rfl := Option.some.inj hf
      refine g_sub (losub (lo' := [some (.ref (ad 2)), some (.ref (ad 93)), some (.ref (ad 94)), some (.ref (ad 95)), some (.ref (ad 96)), none, some (.ref (ad 98)), some (.ref (ad 99)), some (.ref (ad 100)), some (.int x9), some (.int x10), some (.int x11), some (.int x12), some (.int x13), none, none, none, none, none, none]) ⟨rfl, rfl, rfl, rfl, rfl, rfl, rfl, rfl, rfl, rfl, rfl, rfl, rfl, trivial⟩) ?_
      exact k
set_option maxRecDepth 100000 in
set_option maxHeartbeats 4000000 in
theorem gl_L_writes_L608 {p : Program} {l : Launch} {e : Env} {s : State} {m : MethodId} {args : Array Value} {below : List Frame} {meth : Method} {c : Code} {D : va_G} {A : Nat → Prop} {cI : ClassId × ClassId} {ad : Nat → Nat} {Q : State → Prop} {o : Int32 × JT} (X : gX p s m args meth c cL_writes 20 RL D cI) (n : Nat) : ∀ {x12 x17 x18 : Int32} {w : JT}, f_L_writes_L608 n x12 x17 x18 w = some o → G p l e rm_L_writes s m args below meth c D A 20 Q (wJ [] ad cI) 0 0 642 [some (.ref (ad 2)), none, none, none, none, none, none, none, none, none, none, none, some (.int x12), none, none, none, none, some (.int o.1), none, none] [] o.2 → G p l e rm_L_writes s m args below meth c D A 20 Q (wJ [] ad cI) 0 0 608 [some (.ref (ad 2)), none, none, some (.ref (ad 95)), some (.ref (ad 96)), none, none, none, none, none, none, none, some (.int x12), none, none, none, none, some (.int x17), some (.int x18), none] [] w := by
  induction n with
  | zero => intro x12 x17 x18 w hf; cases hf
  | succ n ih =>
    intro x12 x17 x18 w hf k
    rw [f_L_writes_L608] at hf
    refine g_iload X dL_writes_608 rfl ?_
    refine g_bipush X dL_writes_610 (v := 24) (by decide) ?_
    refine g_icmp_ge X dL_writes_612 (tgt := 642) (by decide) hf (fun c157 hf => ?_) (fun c157 hf => ?_)
    · refine g_iload X dL_writes_615 rfl ?_
      refine g_aload_n X (i := 3) dL_writes_617 rfl rfl ?_
      refine g_iload X dL_writes_618 rfl ?_
      obtain ⟨hb158, hf⟩ := hfg hf
      refine g_iald X (q0 := 95) (f := w.2.2 2) dL_writes_620 rfl hb158 ?_
      obtain ⟨o160, h161, hf⟩ := hfb hf
      refine g_jn (M := 633) (lo2 := [some (.ref (ad 2)), none, none, some (.ref (ad 95)), some (.ref (ad 96)), none, none, none, none, none, none, none, some (.int x12), none, none, none, none, none, some (.int x18), none]) (st2 := [.int o160, .int x17]) (w2 := w) ?_ (fun K162 => ?_)
      · refine g_iadd X dL_writes_633 ?_
        refine g_istore X dL_writes_634 (by decide) rfl ?_
        refine g_iinc X (i := 18) (v := 1) dL_writes_636 rfl (by decide) (by decide) rfl ?_
        refine g_goto X dL_writes_639 (tgt := 608) (by decide) ?_
        exact ih hf k
      · have hf := h161
        refine g_if_lt X dL_writes_621 (tgt := 632) (by decide) hf (fun c159 hf => ?_) (fun c159 hf => ?_)
        · refine g_iconst X dL_writes_632 (v := 0) (by decide) ?_
          obtain rfl := Option.some.inj hf
          refine g_sub (losub (lo' := [some (.ref (ad 2)), none, none, some (.ref (ad 95)), some (.ref (ad 96)), none, none, none, none, none, none, none, some (.int x12), none, none, none, none, none, some (.int x18), none]) ⟨rfl, rfl, rfl, rfl, rfl, trivial⟩) ?_
          exact K162
        · refine g_aload X dL_writes_624 rfl ?_
          refine g_iload X dL_writes_626 rfl ?_
          obtain ⟨hb163, hf⟩ := hfg hf
          refine g_iald X (q0 := 96) (f := w.2.2 3) dL_writes_628 rfl hb163 ?_
          refine g_goto X dL_writes_629 (tgt := 633) (by decide) ?_
          obtain rfl := Option.some.inj hf
          refine g_sub (losub (lo' := [some (.ref (ad 2)), none, none, some (.ref (ad 95)), some (.ref (ad 96)), none, none, none, none, none, none, none, some (.int x12), none, none, none, none, none, some (.int x18), none]) ⟨rfl, rfl, rfl, rfl, rfl, trivial⟩) ?_
          exact K162
    · obtain rfl := Option.some.inj hf
      refine g_sub (losub (lo' := [some (.ref (ad 2)), none, none, none, none, none, none, none, none, none, none, none, some (.int x12), none, none, none, none, some (.int x17), none, none]) ⟨rfl, rfl, rfl, trivial⟩) ?_
      exact k
set_option maxRecDepth 100000 in
set_option maxHeartbeats 4000000 in
theorem gl_L_writes_L715 {p : Program} {l : Launch} {e : Env} {s : State} {m : MethodId} {args : Array Value} {below : List Frame} {meth : Method} {c : Code} {D : va_G} {A : Nat → Prop} {cI : ClassId × ClassId} {ad : Nat → Nat} {Q : State → Prop} {o : JT} (X : gX p s m args meth c cL_writes 20 RL D cI) (n : Nat) : ∀ {x17 x18 x19 : Int32} {w : JT}, f_L_writes_L715 n x17 x18 x19 w = some o → G p l e rm_L_writes s m args below meth c D A 20 Q (wJ [] ad cI) 0 0 742 [some (.ref (ad 2)), some (.ref (ad 93)), none, some (.ref (ad 95)), none, none, none, some (.ref (ad 99)), some (.ref (ad 100)), none, none, none, none, none, none, none, none, some (.int x17), some (.int x18), none] [] o → G p l e rm_L_writes s m args below meth c D A 20 Q (wJ [] ad cI) 0 0 715 [some (.ref (ad 2)), some (.ref (ad 93)), none, some (.ref (ad 95)), none, none, some (.ref (ad 98)), some (.ref (ad 99)), some (.ref (ad 100)), none, none, none, none, none, none, none, none, some (.int x17), some (.int x18), some (.int x19)] [] w := by
  induction n with
  | zero => intro x17 x18 x19 w hf; cases hf
  | succ n ih =>
    intro x17 x18 x19 w hf k
    rw [f_L_writes_L715] at hf
    refine g_iload X dL_writes_715 rfl ?_
    refine g_aload_n X (i := 1) dL_writes_717 rfl rfl ?_
    refine g_bipush X dL_writes_718 (v := 9) (by decide) ?_
    obtain ⟨hb181, hf⟩ := hfg hf
    refine g_iald X (q0 := 93) (f := w.2.2 0) dL_writes_720 rfl hb181 ?_
    refine g_icmp_ge X dL_writes_721 (tgt := 742) (by decide) hf (fun c182 hf => ?_) (fun c182 hf => ?_)
    · refine g_aload X dL_writes_724 rfl ?_
      refine g_iload X dL_writes_726 rfl ?_
      refine g_aload X dL_writes_728 rfl ?_
      refine g_iload X dL_writes_730 rfl ?_
      refine g_iconst X dL_writes_732 (v := 1) (by decide) ?_
      refine g_iadd X dL_writes_733 ?_
      obtain ⟨hb183, hf⟩ := hfg hf
      refine g_iald X (q0 := 98) (f := w.2.2 5) dL_writes_734 rfl hb183 ?_
      obtain ⟨hb184, hf⟩ := hfg hf
      refine g_iast X (q0 := 98) (f := w.2.2 5) dL_writes_735 rfl hb184 (awJ_5 ad cI _ _ _) ?_
      refine g_iinc X (i := 19) (v := 1) dL_writes_736 rfl (by decide) (by decide) rfl ?_
      refine g_goto X dL_writes_739 (tgt := 715) (by decide) ?_
      exact ih hf k
    · obtain rfl := Option.some.inj hf
      refine g_sub (losub (lo' := [some (.ref (ad 2)), some (.ref (ad 93)), none, some (.ref (ad 95)), none, none, none, some (.ref (ad 99)), some (.ref (ad 100)), none, none, none, none, none, none, none, none, some (.int x17), some (.int x18), none]) ⟨rfl, rfl, rfl, rfl, rfl, rfl, rfl, trivial⟩) ?_
      exact k
set_option maxRecDepth 100000 in
set_option maxHeartbeats 4000000 in
theorem c_L_writes {l : Launch} {D : va_G} {cI : ClassId × ClassId} {A : Nat → Prop} {ad : Nat → Nat} {x1 x2 : Int32} {w : JT} {o : Int32 × JT} (hf : f_L_writes x1 x2 w = some o) : CTi l D cI A yL_writes cL_writes 20 (some .boolean) rm_L_writes [.ref (ad 2), .ref (ad 93), .ref (ad 94), .ref (ad 95), .ref (ad 96), .ref (ad 97), .ref (ad 98), .ref (ad 99), .ref (ad 100), .int x1, .int x2] ((wJ [] ad cI) w) o.1 ((wJ [] ad cI) o.2)   := by
  refine CTi.of (by decide +kernel) rfl (Nat.le_of_ble_eq_true rfl) ?_
  intro p e s m args below meth c X hr
  have X : gX p s m args meth c cL_writes 20 RL D cI := X
  show G _ _ _ _ _ _ _ _ _ _ _ _ _ _ _ _ _ 0 [some (.ref (ad 2)), some (.ref (ad 93)), some (.ref (ad 94)), some (.ref (ad 95)), some (.ref (ad 96)), some (.ref (ad 97)), some (.ref (ad 98)), some (.ref (ad 99)), some (.ref (ad 100)), some (.int x1), some (.int x2), none, none, none, none, none, none, none, none, none] [] w
  unfold f_L_writes at hf
  refine g_aload_n X (i := 1) dL_writes_0 rfl rfl ?_
  refine g_aload_n X (i := 2) dL_writes_1 rfl rfl ?_
  refine g_aload X dL_writes_2 rfl ?_
  refine g_aload X dL_writes_4 rfl ?_
  obtain ⟨o1, h2, hf⟩ := hfb hf
  refine g_Si X (As := [.ref (ad 93), .ref (ad 94), .ref (ad 98), .ref (ad 100)]) (rest := []) (w1 := (w.1, o1.2)) (liftJ_Ri (t := w.1) (c_L_reached (ad := adR ad) h2)) dL_writes_6 ml_L_63 yv_L_reached rfl rfl ⟨Nat.le_of_ble_eq_true rfl, Nat.le_of_ble_eq_true rfl⟩ ⟨rfl, rfl⟩ (Nat.le_of_ble_eq_true rfl) ⟨Nat.le_of_ble_eq_true rfl, Nat.le_of_ble_eq_true rfl⟩ ?_
  refine g_istore X dL_writes_9 (by decide) rfl ?_
  refine g_iload X dL_writes_11 rfl ?_
  refine g_bipush X dL_writes_13 (v := 24) (by decide) ?_
  refine g_irem X dL_writes_15 (by decide) ?_
  refine g_istore X dL_writes_16 (by decide) rfl ?_
  refine g_iload X dL_writes_18 rfl ?_
  refine g_iconst X dL_writes_20 (v := 5) (by decide) ?_
  refine g_irem X dL_writes_21 (by decide) ?_
  obtain ⟨o4, h5, hf⟩ := hfb hf
  refine g_jn (M := 37) (lo2 := [some (.ref (ad 2)), some (.ref (ad 93)), some (.ref (ad 94)), some (.ref (ad 95)), some (.ref (ad 96)), none, some (.ref (ad 98)), some (.ref (ad 99)), some (.ref (ad 100)), some (.int x1), some (.int x2), some (.int o1.1), some (.int (x2 - x2 / 24 * 24)), none, none, none, none, none, none, none]) (st2 := [.int o4]) (w2 := (w.1, o1.2)) ?_ (fun K6 => ?_)
  · refine g_istore X dL_writes_37 (by decide) rfl ?_
    refine g_iconst X dL_writes_39 (v := 0) (by decide) ?_
    refine g_istore X dL_writes_40 (by decide) rfl ?_
    obtain ⟨o18, h19, hf⟩ := hfb hf
    refine gl_L_writes_L42 X BIG h19 ?_
    refine g_iload X dL_writes_118 rfl ?_
    refine g_sipush X dL_writes_120 (v := 576) (by decide) ?_
    refine g_idiv X dL_writes_123 (by decide) ?_
    refine g_iconst X dL_writes_124 (v := 4) (by decide) ?_
    refine g_irem X dL_writes_125 (by decide) ?_
    refine g_istore X dL_writes_126 (by decide) rfl ?_
    refine g_iload X dL_writes_128 rfl ?_
    obtain ⟨o21, h22, hf⟩ := hfb hf
    refine g_jn (M := 149) (lo2 := [some (.ref (ad 2)), some (.ref (ad 93)), some (.ref (ad 94)), some (.ref (ad 95)), some (.ref (ad 96)), none, some (.ref (ad 98)), some (.ref (ad 99)), some (.ref (ad 100)), some (.int x1), some (.int x2), some (.int o1.1), some (.int o18.1), some (.int o18.2.1), some (.int ((x2 / 576) - (x2 / 576) / 4 * 4)), none, none, none, none, none]) (st2 := [.int o21]) (w2 := o18.2.2) ?_ (fun K23 => ?_)
    · refine g_istore X dL_writes_149 (by decide) rfl ?_
      refine g_iload X dL_writes_151 rfl ?_
      obtain ⟨o26, h27, hf⟩ := hfb hf
      refine g_jn (M := 170) (lo2 := [some (.ref (ad 2)), some (.ref (ad 93)), some (.ref (ad 94)), some (.ref (ad 95)), some (.ref (ad 96)), none, some (.ref (ad 98)), some (.ref (ad 99)), some (.ref (ad 100)), some (.int x1), some (.int x2), some (.int o1.1), some (.int o18.1), some (.int o18.2.1), some (.int ((x2 / 576) - (x2 / 576) / 4 * 4)), some (.int o21), none, none, none, none]) (st2 := [.int o26]) (w2 := o18.2.2) ?_ (fun K28 => ?_)
      · refine g_istore X dL_writes_170 (by decide) rfl ?_
        refine g_iload X dL_writes_172 rfl ?_
        refine g_if_ne X dL_writes_174 (tgt := 325) (by decide) hf (fun c31 hf => ?_) (fun c31 hf => ?_)
        · refine g_iload X dL_writes_177 rfl ?_
          refine g_sipush X dL_writes_179 (v := 576) (by decide) ?_
          refine g_idiv X dL_writes_182 (by decide) ?_
          refine g_iconst X dL_writes_183 (v := 3) (by decide) ?_
          refine g_irem X dL_writes_184 (by decide) ?_
          refine g_istore X dL_writes_185 (by decide) rfl ?_
          refine g_aload_n X (i := 3) dL_writes_187 rfl rfl ?_
          refine g_iload X dL_writes_188 rfl ?_
          obtain ⟨hb32, hf⟩ := hfg hf
          refine g_iald X (q0 := 95) (f := o18.2.2.2.2 2) dL_writes_190 rfl hb32 ?_
          refine g_if_lt X dL_writes_191 (tgt := 209) (by decide) hf (fun c33 hf => ?_) (fun c33 hf => ?_)
          · refine g_aload_n X (i := 0) dL_writes_209 rfl rfl ?_
            refine g_iload X dL_writes_210 rfl ?_
            refine g_iload X dL_writes_212 rfl ?_
            refine g_iload X dL_writes_214 rfl ?_
            obtain ⟨o34, h35, hf⟩ := hfb hf
            refine g_Vi X (q0 := 2) (As := [.int o18.1, .int ((x2 / 576) - (x2 / 576) / 3 * 3), .int o18.2.1]) (rest := []) (w1 := (o34.2, o18.2.2.2)) (liftJ_T (m := o18.2.2.2) (c_X6_field (ad := ad) h35)) dL_writes_216 ml_L_67 yv_X6_field rfl rfl rfl rfl ⟨Nat.le_of_ble_eq_true rfl, Nat.le_of_ble_eq_true rfl⟩ ⟨rfl, rfl⟩ (Nat.le_of_ble_eq_true rfl) ⟨Nat.le_of_ble_eq_true rfl, Nat.le_of_ble_eq_true rfl⟩ ?_
            refine g_aload_n X (i := 3) dL_writes_219 rfl rfl ?_
            refine g_iload X dL_writes_220 rfl ?_
            obtain ⟨hb36, hf⟩ := hfg hf
            refine g_iald X (q0 := 95) (f := o18.2.2.2.2 2) dL_writes_222 rfl hb36 ?_
            obtain ⟨o38, h39, hf⟩ := hfb hf
            refine g_jn (M := 245) (lo2 := [none, none, none, none, none, none, none, none, none, none, none, none, none, none, none, none, none, none, none, none]) (st2 := [.int o38, .int o34.1]) (w2 := (o34.2, o18.2.2.2)) ?_ (fun K40 => ?_)
            · refine g_icmp_ne X dL_writes_245 (tgt := 252) (by decide) hf (fun c43 hf => ?_) (fun c43 hf => ?_)
              · refine g_iconst X dL_writes_248 (v := 1) (by decide) ?_
                refine g_goto X dL_writes_249 (tgt := 253) (by decide) ?_
                exact g_zret X hr dL_writes_253 rfl hf
              · refine g_iconst X dL_writes_252 (v := 0) (by decide) ?_
                exact g_zret X hr dL_writes_253 rfl hf
            · have hf := h39
              refine g_if_lt X dL_writes_223 (tgt := 238) (by decide) hf (fun c37 hf => ?_) (fun c37 hf => ?_)
              · refine g_bipush X dL_writes_238 (v := (-11)) (by decide) ?_
                refine g_goto X dL_writes_240 (tgt := 245) (by decide) ?_
                obtain rfl := Option.some.inj hf
                refine g_sub (losub (lo' := [none, none, none, none, none, none, none, none, none, none, none, none, none, none, none, none, none, none, none, none]) trivial) ?_
                exact K40
              · refine g_iload X dL_writes_226 rfl ?_
                refine g_bipush X dL_writes_228 (v := (-11)) (by decide) ?_
                refine g_icmp_ne X dL_writes_230 (tgt := 243) (by decide) hf (fun c41 hf => ?_) (fun c41 hf => ?_)
                · refine g_iload X dL_writes_233 rfl ?_
                  refine g_if_ne X dL_writes_235 (tgt := 243) (by decide) hf (fun c42 hf => ?_) (fun c42 hf => ?_)
                  · refine g_bipush X dL_writes_238 (v := (-11)) (by decide) ?_
                    refine g_goto X dL_writes_240 (tgt := 245) (by decide) ?_
                    obtain rfl := Option.some.inj hf
                    refine g_sub (losub (lo' := [none, none, none, none, none, none, none, none, none, none, none, none, none, none, none, none, none, none, none, none]) trivial) ?_
                    exact K40
                  · refine g_bipush X dL_writes_243 (v := (-12)) (by decide) ?_
                    obtain rfl := Option.some.inj hf
                    refine g_sub (losub (lo' := [none, none, none, none, none, none, none, none, none, none, none, none, none, none, none, none, none, none, none, none]) trivial) ?_
                    exact K40
                · refine g_bipush X dL_writes_243 (v := (-12)) (by decide) ?_
                  obtain rfl := Option.some.inj hf
                  refine g_sub (losub (lo' := [none, none, none, none, none, none, none, none, none, none, none, none, none, none, none, none, none, none, none, none]) trivial) ?_
                  exact K40
          · refine g_iload X dL_writes_194 rfl ?_
            refine g_iload X dL_writes_196 rfl ?_
            refine g_ishr X dL_writes_198 ?_
            refine g_iconst X dL_writes_199 (v := 1) (by decide) ?_
            refine g_iand X dL_writes_200 ?_
            refine g_if_eq X dL_writes_201 (tgt := 209) (by decide) hf (fun c44 hf => ?_) (fun c44 hf => ?_)
            · refine g_aload_n X (i := 0) dL_writes_209 rfl rfl ?_
              refine g_iload X dL_writes_210 rfl ?_
              refine g_iload X dL_writes_212 rfl ?_
              refine g_iload X dL_writes_214 rfl ?_
              obtain ⟨o45, h46, hf⟩ := hfb hf
              refine g_Vi X (q0 := 2) (As := [.int o18.1, .int ((x2 / 576) - (x2 / 576) / 3 * 3), .int o18.2.1]) (rest := []) (w1 := (o45.2, o18.2.2.2)) (liftJ_T (m := o18.2.2.2) (c_X6_field (ad := ad) h46)) dL_writes_216 ml_L_67 yv_X6_field rfl rfl rfl rfl ⟨Nat.le_of_ble_eq_true rfl, Nat.le_of_ble_eq_true rfl⟩ ⟨rfl, rfl⟩ (Nat.le_of_ble_eq_true rfl) ⟨Nat.le_of_ble_eq_true rfl, Nat.le_of_ble_eq_true rfl⟩ ?_
              refine g_aload_n X (i := 3) dL_writes_219 rfl rfl ?_
              refine g_iload X dL_writes_220 rfl ?_
              obtain ⟨hb47, hf⟩ := hfg hf
              refine g_iald X (q0 := 95) (f := o18.2.2.2.2 2) dL_writes_222 rfl hb47 ?_
              obtain ⟨o49, h50, hf⟩ := hfb hf
              refine g_jn (M := 245) (lo2 := [none, none, none, none, none, none, none, none, none, none, none, none, none, none, none, none, none, none, none, none]) (st2 := [.int o49, .int o45.1]) (w2 := (o45.2, o18.2.2.2)) ?_ (fun K51 => ?_)
              · refine g_icmp_ne X dL_writes_245 (tgt := 252) (by decide) hf (fun c54 hf => ?_) (fun c54 hf => ?_)
                · refine g_iconst X dL_writes_248 (v := 1) (by decide) ?_
                  refine g_goto X dL_writes_249 (tgt := 253) (by decide) ?_
                  exact g_zret X hr dL_writes_253 rfl hf
                · refine g_iconst X dL_writes_252 (v := 0) (by decide) ?_
                  exact g_zret X hr dL_writes_253 rfl hf
              · have hf := h50
                refine g_if_lt X dL_writes_223 (tgt := 238) (by decide) hf (fun c48 hf => ?_) (fun c48 hf => ?_)
                · refine g_bipush X dL_writes_238 (v := (-11)) (by decide) ?_
                  refine g_goto X dL_writes_240 (tgt := 245) (by decide) ?_
                  obtain rfl := Option.some.inj hf
                  refine g_sub (losub (lo' := [none, none, none, none, none, none, none, none, none, none, none, none, none, none, none, none, none, none, none, none]) trivial) ?_
                  exact K51
                · refine g_iload X dL_writes_226 rfl ?_
                  refine g_bipush X dL_writes_228 (v := (-11)) (by decide) ?_
                  refine g_icmp_ne X dL_writes_230 (tgt := 243) (by decide) hf (fun c52 hf => ?_) (fun c52 hf => ?_)
                  · refine g_iload X dL_writes_233 rfl ?_
                    refine g_if_ne X dL_writes_235 (tgt := 243) (by decide) hf (fun c53 hf => ?_) (fun c53 hf => ?_)
                    · refine g_bipush X dL_writes_238 (v := (-11)) (by decide) ?_
                      refine g_goto X dL_writes_240 (tgt := 245) (by decide) ?_
                      obtain rfl := Option.some.inj hf
                      refine g_sub (losub (lo' := [none, none, none, none, none, none, none, none, none, none, none, none, none, none, none, none, none, none, none, none]) trivial) ?_
                      exact K51
                    · refine g_bipush X dL_writes_243 (v := (-12)) (by decide) ?_
                      obtain rfl := Option.some.inj hf
                      refine g_sub (losub (lo' := [none, none, none, none, none, none, none, none, none, none, none, none, none, none, none, none, none, none, none, none]) trivial) ?_
                      exact K51
                  · refine g_bipush X dL_writes_243 (v := (-12)) (by decide) ?_
                    obtain rfl := Option.some.inj hf
                    refine g_sub (losub (lo' := [none, none, none, none, none, none, none, none, none, none, none, none, none, none, none, none, none, none, none, none]) trivial) ?_
                    exact K51
            · refine g_iload X dL_writes_204 rfl ?_
              refine g_if_ne X dL_writes_206 (tgt := 254) (by decide) hf (fun c55 hf => ?_) (fun c55 hf => ?_)
              · refine g_aload_n X (i := 0) dL_writes_209 rfl rfl ?_
                refine g_iload X dL_writes_210 rfl ?_
                refine g_iload X dL_writes_212 rfl ?_
                refine g_iload X dL_writes_214 rfl ?_
                obtain ⟨o56, h57, hf⟩ := hfb hf
                refine g_Vi X (q0 := 2) (As := [.int o18.1, .int ((x2 / 576) - (x2 / 576) / 3 * 3), .int o18.2.1]) (rest := []) (w1 := (o56.2, o18.2.2.2)) (liftJ_T (m := o18.2.2.2) (c_X6_field (ad := ad) h57)) dL_writes_216 ml_L_67 yv_X6_field rfl rfl rfl rfl ⟨Nat.le_of_ble_eq_true rfl, Nat.le_of_ble_eq_true rfl⟩ ⟨rfl, rfl⟩ (Nat.le_of_ble_eq_true rfl) ⟨Nat.le_of_ble_eq_true rfl, Nat.le_of_ble_eq_true rfl⟩ ?_
                refine g_aload_n X (i := 3) dL_writes_219 rfl rfl ?_
                refine g_iload X dL_writes_220 rfl ?_
                obtain ⟨hb58, hf⟩ := hfg hf
                refine g_iald X (q0 := 95) (f := o18.2.2.2.2 2) dL_writes_222 rfl hb58 ?_
                obtain ⟨o60, h61, hf⟩ := hfb hf
                refine g_jn (M := 245) (lo2 := [none, none, none, none, none, none, none, none, none, none, none, none, none, none, none, none, none, none, none, none]) (st2 := [.int o60, .int o56.1]) (w2 := (o56.2, o18.2.2.2)) ?_ (fun K62 => ?_)
                · refine g_icmp_ne X dL_writes_245 (tgt := 252) (by decide) hf (fun c65 hf => ?_) (fun c65 hf => ?_)
                  · refine g_iconst X dL_writes_248 (v := 1) (by decide) ?_
                    refine g_goto X dL_writes_249 (tgt := 253) (by decide) ?_
                    exact g_zret X hr dL_writes_253 rfl hf
                  · refine g_iconst X dL_writes_252 (v := 0) (by decide) ?_
                    exact g_zret X hr dL_writes_253 rfl hf
                · have hf := h61
                  refine g_if_lt X dL_writes_223 (tgt := 238) (by decide) hf (fun c59 hf => ?_) (fun c59 hf => ?_)
                  · refine g_bipush X dL_writes_238 (v := (-11)) (by decide) ?_
                    refine g_goto X dL_writes_240 (tgt := 245) (by decide) ?_
                    obtain rfl := Option.some.inj hf
                    refine g_sub (losub (lo' := [none, none, none, none, none, none, none, none, none, none, none, none, none, none, none, none, none, none, none, none]) trivial) ?_
                    exact K62
                  · refine g_iload X dL_writes_226 rfl ?_
                    refine g_bipush X dL_writes_228 (v := (-11)) (by decide) ?_
                    refine g_icmp_ne X dL_writes_230 (tgt := 243) (by decide) hf (fun c63 hf => ?_) (fun c63 hf => ?_)
                    · refine g_iload X dL_writes_233 rfl ?_
                      refine g_if_ne X dL_writes_235 (tgt := 243) (by decide) hf (fun c64 hf => ?_) (fun c64 hf => ?_)
                      · refine g_bipush X dL_writes_238 (v := (-11)) (by decide) ?_
                        refine g_goto X dL_writes_240 (tgt := 245) (by decide) ?_
                        obtain rfl := Option.some.inj hf
                        refine g_sub (losub (lo' := [none, none, none, none, none, none, none, none, none, none, none, none, none, none, none, none, none, none, none, none]) trivial) ?_
                        exact K62
                      · refine g_bipush X dL_writes_243 (v := (-12)) (by decide) ?_
                        obtain rfl := Option.some.inj hf
                        refine g_sub (losub (lo' := [none, none, none, none, none, none, none, none, none, none, none, none, none, none, none, none, none, none, none, none]) trivial) ?_
                        exact K62
                    · refine g_bipush X dL_writes_243 (v := (-12)) (by decide) ?_
                      obtain rfl := Option.some.inj hf
                      refine g_sub (losub (lo' := [none, none, none, none, none, none, none, none, none, none, none, none, none, none, none, none, none, none, none, none]) trivial) ?_
                      exact K62
              · refine g_aload_n X (i := 2) dL_writes_254 rfl rfl ?_
                refine g_iconst X dL_writes_255 (v := 3) (by decide) ?_
                refine g_iload X dL_writes_256 rfl ?_
                refine g_imul X dL_writes_258 ?_
                refine g_iload X dL_writes_259 rfl ?_
                refine g_iadd X dL_writes_261 ?_
                obtain ⟨o66, h67, hf⟩ := hfb hf
                refine g_Si X (As := [.ref (ad 94), .int ((3 * o18.1) + ((x2 / 576) - (x2 / 576) / 3 * 3))]) (rest := []) (w1 := (o18.2.2.1, o66.2)) (liftJ_Ri (t := o18.2.2.1) (c_L_at (ad := adR ad) h67)) dL_writes_262 ml_L_9 yv_L_at rfl rfl ⟨Nat.le_of_ble_eq_true rfl, Nat.le_of_ble_eq_true rfl⟩ ⟨rfl, rfl⟩ (Nat.le_of_ble_eq_true rfl) ⟨Nat.le_of_ble_eq_true rfl, Nat.le_of_ble_eq_true rfl⟩ ?_
                refine g_istore X dL_writes_265 (by decide) rfl ?_
                refine g_aload_n X (i := 2) dL_writes_267 rfl rfl ?_
                refine g_iconst X dL_writes_268 (v := 3) (by decide) ?_
                refine g_iload X dL_writes_269 rfl ?_
                refine g_imul X dL_writes_271 ?_
                refine g_iload X dL_writes_272 rfl ?_
                refine g_iadd X dL_writes_274 ?_
                refine g_iload X dL_writes_275 rfl ?_
                obtain ⟨o68, h69, hf⟩ := hfb hf
                refine g_Sv X (As := [.ref (ad 94), .int ((3 * o18.1) + ((x2 / 576) - (x2 / 576) / 3 * 3)), .int o18.2.1]) (rest := []) (w1 := (o18.2.2.1, o68.2)) (liftJ_Rv (t := o18.2.2.1) (c_L_put (ad := adR ad) h69)) dL_writes_277 ml_L_31 yv_L_put rfl rfl ⟨Nat.le_of_ble_eq_true rfl, Nat.le_of_ble_eq_true rfl⟩ ⟨rfl, rfl⟩ (Nat.le_of_ble_eq_true rfl) ⟨Nat.le_of_ble_eq_true rfl, Nat.le_of_ble_eq_true rfl⟩ ?_
                refine g_aload_n X (i := 1) dL_writes_280 rfl rfl ?_
                refine g_aload_n X (i := 3) dL_writes_281 rfl rfl ?_
                refine g_aload X dL_writes_282 rfl ?_
                refine g_iload X dL_writes_284 rfl ?_
                refine g_iload X dL_writes_286 rfl ?_
                refine g_aload_n X (i := 3) dL_writes_288 rfl rfl ?_
                refine g_iload X dL_writes_289 rfl ?_
                obtain ⟨hb70, hf⟩ := hfg hf
                refine g_iald X (q0 := 95) (f := o68.2.2 2) dL_writes_291 rfl hb70 ?_
                refine g_iconst X dL_writes_292 (v := 2) (by decide) ?_
                obtain ⟨o72, h73, hf⟩ := hfb hf
                refine g_jn (M := 301) (lo2 := [some (.ref (ad 2)), none, none, none, none, none, none, none, none, none, none, none, some (.int o18.1), some (.int o18.2.1), none, none, none, some (.int ((x2 / 576) - (x2 / 576) / 3 * 3)), some (.int o66.1), none]) (st2 := [.int o72, .int o18.2.1, .int o66.1, .ref (ad 99), .ref (ad 95), .ref (ad 93)]) (w2 := (o18.2.2.1, o68.2)) ?_ (fun K74 => ?_)
                · obtain ⟨o75, h76, hf⟩ := hfb hf
                  refine g_Sv X (As := [.ref (ad 93), .ref (ad 95), .ref (ad 99), .int o66.1, .int o18.2.1, .int o72]) (rest := []) (w1 := (o18.2.2.1, o75.2)) (liftJ_Rv (t := o18.2.2.1) (c_L_care (ad := adR ad) h76)) dL_writes_301 ml_L_27 yv_L_care rfl rfl ⟨Nat.le_of_ble_eq_true rfl, Nat.le_of_ble_eq_true rfl⟩ ⟨rfl, rfl⟩ (Nat.le_of_ble_eq_true rfl) ⟨Nat.le_of_ble_eq_true rfl, Nat.le_of_ble_eq_true rfl⟩ ?_
                  refine g_aload_n X (i := 0) dL_writes_304 rfl rfl ?_
                  refine g_iload X dL_writes_305 rfl ?_
                  refine g_iload X dL_writes_307 rfl ?_
                  refine g_iload X dL_writes_309 rfl ?_
                  obtain ⟨o77, h78, hf⟩ := hfb hf
                  refine g_Vi X (q0 := 2) (As := [.int o18.1, .int ((x2 / 576) - (x2 / 576) / 3 * 3), .int o18.2.1]) (rest := []) (w1 := (o77.2, o75.2)) (liftJ_T (m := o75.2) (c_X6_field (ad := ad) h78)) dL_writes_311 ml_L_67 yv_X6_field rfl rfl rfl rfl ⟨Nat.le_of_ble_eq_true rfl, Nat.le_of_ble_eq_true rfl⟩ ⟨rfl, rfl⟩ (Nat.le_of_ble_eq_true rfl) ⟨Nat.le_of_ble_eq_true rfl, Nat.le_of_ble_eq_true rfl⟩ ?_
                  refine g_iload X dL_writes_314 rfl ?_
                  refine g_icmp_ne X dL_writes_316 (tgt := 323) (by decide) hf (fun c79 hf => ?_) (fun c79 hf => ?_)
                  · refine g_iconst X dL_writes_319 (v := 1) (by decide) ?_
                    refine g_goto X dL_writes_320 (tgt := 324) (by decide) ?_
                    exact g_zret X hr dL_writes_324 rfl hf
                  · refine g_iconst X dL_writes_323 (v := 0) (by decide) ?_
                    exact g_zret X hr dL_writes_324 rfl hf
                · have hf := h73
                  refine g_icmp_ne X dL_writes_293 (tgt := 300) (by decide) hf (fun c71 hf => ?_) (fun c71 hf => ?_)
                  · refine g_iconst X dL_writes_296 (v := 1) (by decide) ?_
                    refine g_goto X dL_writes_297 (tgt := 301) (by decide) ?_
                    obtain rfl := Option.some.inj hf
                    refine g_sub (losub (lo' := [some (.ref (ad 2)), none, none, none, none, none, none, none, none, none, none, none, some (.int o18.1), some (.int o18.2.1), none, none, none, some (.int ((x2 / 576) - (x2 / 576) / 3 * 3)), some (.int o66.1), none]) ⟨rfl, rfl, rfl, rfl, rfl, trivial⟩) ?_
                    exact K74
                  · refine g_iconst X dL_writes_300 (v := 0) (by decide) ?_
                    obtain rfl := Option.some.inj hf
                    refine g_sub (losub (lo' := [some (.ref (ad 2)), none, none, none, none, none, none, none, none, none, none, none, some (.int o18.1), some (.int o18.2.1), none, none, none, some (.int ((x2 / 576) - (x2 / 576) / 3 * 3)), some (.int o66.1), none]) ⟨rfl, rfl, rfl, rfl, rfl, trivial⟩) ?_
                    exact K74
        · refine g_iload X dL_writes_325 rfl ?_
          refine g_iconst X dL_writes_327 (v := 1) (by decide) ?_
          refine g_icmp_ne X dL_writes_328 (tgt := 371) (by decide) hf (fun c80 hf => ?_) (fun c80 hf => ?_)
          · refine g_aload_n X (i := 0) dL_writes_331 rfl rfl ?_
            refine g_iload X dL_writes_332 rfl ?_
            refine g_iload X dL_writes_334 rfl ?_
            obtain ⟨o81, h82, hf⟩ := hfb hf
            refine g_Vi X (q0 := 2) (As := [.int ((x2 / 576) - (x2 / 576) / 4 * 4), .int o18.2.1]) (rest := []) (w1 := (o81.2, o18.2.2.2)) (liftJ_T (m := o18.2.2.2) (c_X6_root (ad := ad) h82)) dL_writes_336 ml_L_71 yv_X6_root rfl rfl rfl rfl ⟨Nat.le_of_ble_eq_true rfl, Nat.le_of_ble_eq_true rfl⟩ ⟨rfl, rfl⟩ (Nat.le_of_ble_eq_true rfl) ⟨Nat.le_of_ble_eq_true rfl, Nat.le_of_ble_eq_true rfl⟩ ?_
            refine g_iload X dL_writes_339 rfl ?_
            obtain ⟨o84, h85, hf⟩ := hfb hf
            refine g_jn (M := 362) (lo2 := [none, none, none, none, none, none, none, none, none, none, none, none, none, none, none, none, none, none, none, none]) (st2 := [.int o84.1, .int o81.1]) (w2 := o84.2) ?_ (fun K86 => ?_)
            · refine g_icmp_ne X dL_writes_362 (tgt := 369) (by decide) hf (fun c89 hf => ?_) (fun c89 hf => ?_)
              · refine g_iconst X dL_writes_365 (v := 1) (by decide) ?_
                refine g_goto X dL_writes_366 (tgt := 370) (by decide) ?_
                exact g_zret X hr dL_writes_370 rfl hf
              · refine g_iconst X dL_writes_369 (v := 0) (by decide) ?_
                exact g_zret X hr dL_writes_370 rfl hf
            · have hf := h85
              refine g_if_eq X dL_writes_341 (tgt := 360) (by decide) hf (fun c83 hf => ?_) (fun c83 hf => ?_)
              · refine g_iload X dL_writes_360 rfl ?_
                obtain rfl := Option.some.inj hf
                refine g_sub (losub (lo' := [none, none, none, none, none, none, none, none, none, none, none, none, none, none, none, none, none, none, none, none]) trivial) ?_
                exact K86
              · refine g_aload_n X (i := 1) dL_writes_344 rfl rfl ?_
                refine g_aload_n X (i := 3) dL_writes_345 rfl rfl ?_
                refine g_aload X dL_writes_346 rfl ?_
                refine g_aload X dL_writes_348 rfl ?_
                refine g_iload X dL_writes_350 rfl ?_
                refine g_iload X dL_writes_352 rfl ?_
                obtain ⟨o87, h88, hf⟩ := hfb hf
                refine g_Si X (As := [.ref (ad 93), .ref (ad 95), .ref (ad 99), .ref (ad 100), .int ((x2 / 576) - (x2 / 576) / 4 * 4), .int o18.2.1]) (rest := [.int o81.1]) (w1 := (o81.2, o87.2)) (liftJ_Ri (t := o81.2) (c_L_writeRoot (ad := adR ad) h88)) dL_writes_354 ml_L_75 yv_L_writeRoot rfl rfl ⟨Nat.le_of_ble_eq_true rfl, Nat.le_of_ble_eq_true rfl⟩ ⟨rfl, rfl⟩ (Nat.le_of_ble_eq_true rfl) ⟨Nat.le_of_ble_eq_true rfl, Nat.le_of_ble_eq_true rfl⟩ ?_
                refine g_goto X dL_writes_357 (tgt := 362) (by decide) ?_
                obtain rfl := Option.some.inj hf
                refine g_sub (losub (lo' := [none, none, none, none, none, none, none, none, none, none, none, none, none, none, none, none, none, none, none, none]) trivial) ?_
                exact K86
          · refine g_iload X dL_writes_371 rfl ?_
            refine g_iconst X dL_writes_373 (v := 2) (by decide) ?_
            refine g_icmp_ne X dL_writes_374 (tgt := 434) (by decide) hf (fun c90 hf => ?_) (fun c90 hf => ?_)
            · refine g_aload X dL_writes_377 rfl ?_
              refine g_iconst X dL_writes_379 (v := 4) (by decide) ?_
              refine g_iload X dL_writes_380 rfl ?_
              refine g_iadd X dL_writes_382 ?_
              obtain ⟨hb91, hf⟩ := hfg hf
              refine g_iald X (q0 := 100) (f := o18.2.2.2.2 7) dL_writes_383 rfl hb91 ?_
              refine g_istore X dL_writes_384 (by decide) rfl ?_
              refine g_aload X dL_writes_386 rfl ?_
              refine g_iconst X dL_writes_388 (v := 4) (by decide) ?_
              refine g_iload X dL_writes_389 rfl ?_
              refine g_iadd X dL_writes_391 ?_
              refine g_iload X dL_writes_392 rfl ?_
              obtain ⟨o93, h94, hf⟩ := hfb hf
              refine g_jn (M := 404) (lo2 := [some (.ref (ad 2)), none, none, none, none, none, none, none, none, none, none, none, none, some (.int o18.2.1), some (.int ((x2 / 576) - (x2 / 576) / 4 * 4)), some (.int o21), some (.int o26), some (.int (o18.2.2.2.2 7 (4 + ((x2 / 576) - (x2 / 576) / 4 * 4)).toNatClampNeg)), none, none]) (st2 := [.int o93, .int (4 + ((x2 / 576) - (x2 / 576) / 4 * 4)), .ref (ad 100)]) (w2 := o18.2.2) ?_ (fun K95 => ?_)
              · obtain ⟨hb96, hf⟩ := hfg hf
                refine g_iast X (q0 := 100) (f := o18.2.2.2.2 7) dL_writes_404 rfl hb96 (awJ_7 ad cI _ _ _) ?_
                refine g_aload_n X (i := 0) dL_writes_405 rfl rfl ?_
                refine g_iload X dL_writes_406 rfl ?_
                refine g_iload X dL_writes_408 rfl ?_
                obtain ⟨o97, h98, hf⟩ := hfb hf
                refine g_Vi X (q0 := 2) (As := [.int ((x2 / 576) - (x2 / 576) / 4 * 4), .int o18.2.1]) (rest := []) (w1 := (o97.2, sA o18.2.2.2 7 (4 + ((x2 / 576) - (x2 / 576) / 4 * 4)) o93)) (liftJ_T (m := sA o18.2.2.2 7 (4 + ((x2 / 576) - (x2 / 576) / 4 * 4)) o93) (c_X6_weak (ad := ad) h98)) dL_writes_410 ml_L_79 yv_X6_weak rfl rfl rfl rfl ⟨Nat.le_of_ble_eq_true rfl, Nat.le_of_ble_eq_true rfl⟩ ⟨rfl, rfl⟩ (Nat.le_of_ble_eq_true rfl) ⟨Nat.le_of_ble_eq_true rfl, Nat.le_of_ble_eq_true rfl⟩ ?_
                refine g_iload X dL_writes_413 rfl ?_
                obtain ⟨o100, h101, hf⟩ := hfb hf
                refine g_jn (M := 425) (lo2 := [none, none, none, none, none, none, none, none, none, none, none, none, none, none, none, none, none, none, none, none]) (st2 := [.int o100, .int o97.1]) (w2 := (o97.2, sA o18.2.2.2 7 (4 + ((x2 / 576) - (x2 / 576) / 4 * 4)) o93)) ?_ (fun K102 => ?_)
                · refine g_icmp_ne X dL_writes_425 (tgt := 432) (by decide) hf (fun c103 hf => ?_) (fun c103 hf => ?_)
                  · refine g_iconst X dL_writes_428 (v := 1) (by decide) ?_
                    refine g_goto X dL_writes_429 (tgt := 433) (by decide) ?_
                    exact g_zret X hr dL_writes_433 rfl hf
                  · refine g_iconst X dL_writes_432 (v := 0) (by decide) ?_
                    exact g_zret X hr dL_writes_433 rfl hf
                · have hf := h101
                  refine g_if_eq X dL_writes_415 (tgt := 423) (by decide) hf (fun c99 hf => ?_) (fun c99 hf => ?_)
                  · refine g_iload X dL_writes_423 rfl ?_
                    obtain rfl := Option.some.inj hf
                    refine g_sub (losub (lo' := [none, none, none, none, none, none, none, none, none, none, none, none, none, none, none, none, none, none, none, none]) trivial) ?_
                    exact K102
                  · refine g_iload X dL_writes_418 rfl ?_
                    refine g_goto X dL_writes_420 (tgt := 425) (by decide) ?_
                    obtain rfl := Option.some.inj hf
                    refine g_sub (losub (lo' := [none, none, none, none, none, none, none, none, none, none, none, none, none, none, none, none, none, none, none, none]) trivial) ?_
                    exact K102
              · have hf := h94
                refine g_if_eq X dL_writes_394 (tgt := 402) (by decide) hf (fun c92 hf => ?_) (fun c92 hf => ?_)
                · refine g_iload X dL_writes_402 rfl ?_
                  obtain rfl := Option.some.inj hf
                  refine g_sub (losub (lo' := [some (.ref (ad 2)), none, none, none, none, none, none, none, none, none, none, none, none, some (.int o18.2.1), some (.int ((x2 / 576) - (x2 / 576) / 4 * 4)), some (.int o21), some (.int o26), some (.int (o18.2.2.2.2 7 (4 + ((x2 / 576) - (x2 / 576) / 4 * 4)).toNatClampNeg)), none, none]) ⟨rfl, rfl, rfl, rfl, rfl, rfl, trivial⟩) ?_
                  exact K95
                · refine g_iload X dL_writes_397 rfl ?_
                  refine g_goto X dL_writes_399 (tgt := 404) (by decide) ?_
                  obtain rfl := Option.some.inj hf
                  refine g_sub (losub (lo' := [some (.ref (ad 2)), none, none, none, none, none, none, none, none, none, none, none, none, some (.int o18.2.1), some (.int ((x2 / 576) - (x2 / 576) / 4 * 4)), some (.int o21), some (.int o26), some (.int (o18.2.2.2.2 7 (4 + ((x2 / 576) - (x2 / 576) / 4 * 4)).toNatClampNeg)), none, none]) ⟨rfl, rfl, rfl, rfl, rfl, rfl, trivial⟩) ?_
                  exact K95
            · refine g_iload X dL_writes_434 rfl ?_
              refine g_iconst X dL_writes_436 (v := 3) (by decide) ?_
              refine g_icmp_ne X dL_writes_437 (tgt := 535) (by decide) hf (fun c104 hf => ?_) (fun c104 hf => ?_)
              · refine g_iload X dL_writes_440 rfl ?_
                refine g_iconst X dL_writes_442 (v := 4) (by decide) ?_
                refine g_irem X dL_writes_443 (by decide) ?_
                refine g_istore X dL_writes_444 (by decide) rfl ?_
                refine g_aload X dL_writes_446 rfl ?_
                refine g_iconst X dL_writes_448 (v := 4) (by decide) ?_
                refine g_iload X dL_writes_449 rfl ?_
                refine g_iadd X dL_writes_451 ?_
                obtain ⟨hb105, hf⟩ := hfg hf
                refine g_iald X (q0 := 100) (f := o18.2.2.2.2 7) dL_writes_452 rfl hb105 ?_
                refine g_istore X dL_writes_453 (by decide) rfl ?_
                refine g_iload X dL_writes_455 rfl ?_
                refine g_if_ge X dL_writes_457 (tgt := 479) (by decide) hf (fun c106 hf => ?_) (fun c106 hf => ?_)
                · refine g_aload_n X (i := 0) dL_writes_460 rfl rfl ?_
                  refine g_iload X dL_writes_461 rfl ?_
                  refine g_iload X dL_writes_463 rfl ?_
                  obtain ⟨o107, h108, hf⟩ := hfb hf
                  refine g_Vi X (q0 := 2) (As := [.int (x2 - x2 / 4 * 4), .int ((x2 / 576) - (x2 / 576) / 4 * 4)]) (rest := []) (w1 := (o107.2, o18.2.2.2)) (liftJ_T (m := o18.2.2.2) (c_X6_ask (ad := ad) h108)) dL_writes_465 ml_L_82 yv_X6_ask rfl rfl rfl rfl ⟨Nat.le_of_ble_eq_true rfl, Nat.le_of_ble_eq_true rfl⟩ ⟨rfl, rfl⟩ (Nat.le_of_ble_eq_true rfl) ⟨Nat.le_of_ble_eq_true rfl, Nat.le_of_ble_eq_true rfl⟩ ?_
                  refine g_bipush X dL_writes_468 (v := (-14)) (by decide) ?_
                  refine g_icmp_ne X dL_writes_470 (tgt := 477) (by decide) hf (fun c109 hf => ?_) (fun c109 hf => ?_)
                  · refine g_iconst X dL_writes_473 (v := 1) (by decide) ?_
                    refine g_goto X dL_writes_474 (tgt := 478) (by decide) ?_
                    exact g_zret X hr dL_writes_478 rfl hf
                  · refine g_iconst X dL_writes_477 (v := 0) (by decide) ?_
                    exact g_zret X hr dL_writes_478 rfl hf
                · refine g_aload_n X (i := 1) dL_writes_479 rfl rfl ?_
                  refine g_aload_n X (i := 3) dL_writes_480 rfl rfl ?_
                  refine g_aload X dL_writes_481 rfl ?_
                  refine g_aload X dL_writes_483 rfl ?_
                  refine g_iload X dL_writes_485 rfl ?_
                  refine g_iload X dL_writes_487 rfl ?_
                  obtain ⟨o110, h111, hf⟩ := hfb hf
                  refine g_Si X (As := [.ref (ad 93), .ref (ad 95), .ref (ad 99), .ref (ad 100), .int ((x2 / 576) - (x2 / 576) / 4 * 4), .int (o18.2.2.2.2 7 (4 + (x2 - x2 / 4 * 4)).toNatClampNeg)]) (rest := []) (w1 := (o18.2.2.1, o110.2)) (liftJ_Ri (t := o18.2.2.1) (c_L_writeRoot (ad := adR ad) h111)) dL_writes_489 ml_L_75 yv_L_writeRoot rfl rfl ⟨Nat.le_of_ble_eq_true rfl, Nat.le_of_ble_eq_true rfl⟩ ⟨rfl, rfl⟩ (Nat.le_of_ble_eq_true rfl) ⟨Nat.le_of_ble_eq_true rfl, Nat.le_of_ble_eq_true rfl⟩ ?_
                  refine g_pop X dL_writes_492 rfl ?_
                  refine g_aload_n X (i := 1) dL_writes_493 rfl rfl ?_
                  refine g_iconst X dL_writes_494 (v := 0) (by decide) ?_
                  obtain ⟨hb112, hf⟩ := hfg hf
                  refine g_iald X (q0 := 93) (f := o110.2.2 0) dL_writes_495 rfl hb112 ?_
                  refine g_iconst X dL_writes_496 (v := 1) (by decide) ?_
                  obtain ⟨o114, h115, hf⟩ := hfb hf
                  refine g_jn (M := 516) (lo2 := [some (.ref (ad 2)), none, none, none, none, none, none, none, none, none, none, none, none, none, some (.int ((x2 / 576) - (x2 / 576) / 4 * 4)), none, none, some (.int (x2 - x2 / 4 * 4)), some (.int (o18.2.2.2.2 7 (4 + (x2 - x2 / 4 * 4)).toNatClampNeg)), none]) (st2 := []) (w2 := o114) ?_ (fun K116 => ?_)
                  · refine g_aload_n X (i := 0) dL_writes_516 rfl rfl ?_
                    refine g_iload X dL_writes_517 rfl ?_
                    refine g_iload X dL_writes_519 rfl ?_
                    obtain ⟨o123, h124, hf⟩ := hfb hf
                    refine g_Vi X (q0 := 2) (As := [.int (x2 - x2 / 4 * 4), .int ((x2 / 576) - (x2 / 576) / 4 * 4)]) (rest := []) (w1 := (o123.2, o114.2)) (liftJ_T (m := o114.2) (c_X6_ask (ad := ad) h124)) dL_writes_521 ml_L_82 yv_X6_ask rfl rfl rfl rfl ⟨Nat.le_of_ble_eq_true rfl, Nat.le_of_ble_eq_true rfl⟩ ⟨rfl, rfl⟩ (Nat.le_of_ble_eq_true rfl) ⟨Nat.le_of_ble_eq_true rfl, Nat.le_of_ble_eq_true rfl⟩ ?_
                    refine g_iload X dL_writes_524 rfl ?_
                    refine g_icmp_ne X dL_writes_526 (tgt := 533) (by decide) hf (fun c125 hf => ?_) (fun c125 hf => ?_)
                    · refine g_iconst X dL_writes_529 (v := 1) (by decide) ?_
                      refine g_goto X dL_writes_530 (tgt := 534) (by decide) ?_
                      exact g_zret X hr dL_writes_534 rfl hf
                    · refine g_iconst X dL_writes_533 (v := 0) (by decide) ?_
                      exact g_zret X hr dL_writes_534 rfl hf
                  · have hf := h115
                    refine g_icmp_eq X dL_writes_497 (tgt := 507) (by decide) hf (fun c113 hf => ?_) (fun c113 hf => ?_)
                    · refine g_aload_n X (i := 1) dL_writes_507 rfl rfl ?_
                      refine g_aload_n X (i := 3) dL_writes_508 rfl rfl ?_
                      refine g_aload X dL_writes_509 rfl ?_
                      refine g_iload X dL_writes_511 rfl ?_
                      obtain ⟨o117, h118, hf⟩ := hfb hf
                      refine g_Sv X (As := [.ref (ad 93), .ref (ad 95), .ref (ad 99), .int (o18.2.2.2.2 7 (4 + (x2 - x2 / 4 * 4)).toNatClampNeg)]) (rest := []) (w1 := (o18.2.2.1, o117.2)) (liftJ_Rv (t := o18.2.2.1) (c_L_shade (ad := adR ad) h118)) dL_writes_513 ml_L_23 yv_L_shade rfl rfl ⟨Nat.le_of_ble_eq_true rfl, Nat.le_of_ble_eq_true rfl⟩ ⟨rfl, rfl⟩ (Nat.le_of_ble_eq_true rfl) ⟨Nat.le_of_ble_eq_true rfl, Nat.le_of_ble_eq_true rfl⟩ ?_
                      obtain rfl := Option.some.inj hf
                      refine g_sub (losub (lo' := [some (.ref (ad 2)), none, none, none, none, none, none, none, none, none, none, none, none, none, some (.int ((x2 / 576) - (x2 / 576) / 4 * 4)), none, none, some (.int (x2 - x2 / 4 * 4)), some (.int (o18.2.2.2.2 7 (4 + (x2 - x2 / 4 * 4)).toNatClampNeg)), none]) ⟨rfl, rfl, rfl, rfl, trivial⟩) ?_
                      exact K116
                    · refine g_aload_n X (i := 1) dL_writes_500 rfl rfl ?_
                      refine g_iconst X dL_writes_501 (v := 0) (by decide) ?_
                      obtain ⟨hb119, hf⟩ := hfg hf
                      refine g_iald X (q0 := 93) (f := o110.2.2 0) dL_writes_502 rfl hb119 ?_
                      refine g_iconst X dL_writes_503 (v := 2) (by decide) ?_
                      refine g_icmp_ne X dL_writes_504 (tgt := 516) (by decide) hf (fun c120 hf => ?_) (fun c120 hf => ?_)
                      · refine g_aload_n X (i := 1) dL_writes_507 rfl rfl ?_
                        refine g_aload_n X (i := 3) dL_writes_508 rfl rfl ?_
                        refine g_aload X dL_writes_509 rfl ?_
                        refine g_iload X dL_writes_511 rfl ?_
                        obtain ⟨o121, h122, hf⟩ := hfb hf
                        refine g_Sv X (As := [.ref (ad 93), .ref (ad 95), .ref (ad 99), .int (o18.2.2.2.2 7 (4 + (x2 - x2 / 4 * 4)).toNatClampNeg)]) (rest := []) (w1 := (o18.2.2.1, o121.2)) (liftJ_Rv (t := o18.2.2.1) (c_L_shade (ad := adR ad) h122)) dL_writes_513 ml_L_23 yv_L_shade rfl rfl ⟨Nat.le_of_ble_eq_true rfl, Nat.le_of_ble_eq_true rfl⟩ ⟨rfl, rfl⟩ (Nat.le_of_ble_eq_true rfl) ⟨Nat.le_of_ble_eq_true rfl, Nat.le_of_ble_eq_true rfl⟩ ?_
                        obtain rfl := Option.some.inj hf
                        refine g_sub (losub (lo' := [some (.ref (ad 2)), none, none, none, none, none, none, none, none, none, none, none, none, none, some (.int ((x2 / 576) - (x2 / 576) / 4 * 4)), none, none, some (.int (x2 - x2 / 4 * 4)), some (.int (o18.2.2.2.2 7 (4 + (x2 - x2 / 4 * 4)).toNatClampNeg)), none]) ⟨rfl, rfl, rfl, rfl, trivial⟩) ?_
                        exact K116
                      · obtain rfl := Option.some.inj hf
                        refine g_sub (losub (lo' := [some (.ref (ad 2)), none, none, none, none, none, none, none, none, none, none, none, none, none, some (.int ((x2 / 576) - (x2 / 576) / 4 * 4)), none, none, some (.int (x2 - x2 / 4 * 4)), some (.int (o18.2.2.2.2 7 (4 + (x2 - x2 / 4 * 4)).toNatClampNeg)), none]) ⟨rfl, rfl, rfl, rfl, trivial⟩) ?_
                        exact K116
              · refine g_iload X dL_writes_535 rfl ?_
                refine g_iconst X dL_writes_537 (v := 4) (by decide) ?_
                refine g_icmp_ne X dL_writes_538 (tgt := 659) (by decide) hf (fun c126 hf => ?_) (fun c126 hf => ?_)
                · refine g_aload_n X (i := 3) dL_writes_541 rfl rfl ?_
                  refine g_iload X dL_writes_542 rfl ?_
                  obtain ⟨hb127, hf⟩ := hfg hf
                  refine g_iald X (q0 := 95) (f := o18.2.2.2.2 2) dL_writes_544 rfl hb127 ?_
                  refine g_if_lt X dL_writes_545 (tgt := 567) (by decide) hf (fun c128 hf => ?_) (fun c128 hf => ?_)
                  · refine g_aload_n X (i := 0) dL_writes_567 rfl rfl ?_
                    refine g_iload X dL_writes_568 rfl ?_
                    obtain ⟨o129, h130, hf⟩ := hfb hf
                    refine g_Vi X (q0 := 2) (As := [.int o18.1]) (rest := []) (w1 := (o129.2, o18.2.2.2)) (liftJ_T (m := o18.2.2.2) (c_X6_want (ad := ad) h130)) dL_writes_570 ml_L_85 yv_X6_want rfl rfl rfl rfl ⟨Nat.le_of_ble_eq_true rfl, Nat.le_of_ble_eq_true rfl⟩ ⟨rfl, rfl⟩ (Nat.le_of_ble_eq_true rfl) ⟨Nat.le_of_ble_eq_true rfl, Nat.le_of_ble_eq_true rfl⟩ ?_
                    refine g_aload_n X (i := 3) dL_writes_573 rfl rfl ?_
                    refine g_iload X dL_writes_574 rfl ?_
                    obtain ⟨hb131, hf⟩ := hfg hf
                    refine g_iald X (q0 := 95) (f := o18.2.2.2.2 2) dL_writes_576 rfl hb131 ?_
                    obtain ⟨o133, h134, hf⟩ := hfb hf
                    refine g_jn (M := 587) (lo2 := [none, none, none, none, none, none, none, none, none, none, none, none, none, none, none, none, none, none, none, none]) (st2 := [.int o133, .int o129.1]) (w2 := (o129.2, o18.2.2.2)) ?_ (fun K135 => ?_)
                    · refine g_icmp_ne X dL_writes_587 (tgt := 594) (by decide) hf (fun c136 hf => ?_) (fun c136 hf => ?_)
                      · refine g_iconst X dL_writes_590 (v := 1) (by decide) ?_
                        refine g_goto X dL_writes_591 (tgt := 595) (by decide) ?_
                        exact g_zret X hr dL_writes_595 rfl hf
                      · refine g_iconst X dL_writes_594 (v := 0) (by decide) ?_
                        exact g_zret X hr dL_writes_595 rfl hf
                    · have hf := h134
                      refine g_if_ge X dL_writes_577 (tgt := 585) (by decide) hf (fun c132 hf => ?_) (fun c132 hf => ?_)
                      · refine g_bipush X dL_writes_580 (v := (-11)) (by decide) ?_
                        refine g_goto X dL_writes_582 (tgt := 587) (by decide) ?_
                        obtain rfl := Option.some.inj hf
                        refine g_sub (losub (lo' := [none, none, none, none, none, none, none, none, none, none, none, none, none, none, none, none, none, none, none, none]) trivial) ?_
                        exact K135
                      · refine g_bipush X dL_writes_585 (v := (-12)) (by decide) ?_
                        obtain rfl := Option.some.inj hf
                        refine g_sub (losub (lo' := [none, none, none, none, none, none, none, none, none, none, none, none, none, none, none, none, none, none, none, none]) trivial) ?_
                        exact K135
                  · refine g_iload X dL_writes_548 rfl ?_
                    refine g_iload X dL_writes_550 rfl ?_
                    refine g_ishr X dL_writes_552 ?_
                    refine g_iconst X dL_writes_553 (v := 1) (by decide) ?_
                    refine g_iand X dL_writes_554 ?_
                    refine g_if_eq X dL_writes_555 (tgt := 567) (by decide) hf (fun c137 hf => ?_) (fun c137 hf => ?_)
                    · refine g_aload_n X (i := 0) dL_writes_567 rfl rfl ?_
                      refine g_iload X dL_writes_568 rfl ?_
                      obtain ⟨o138, h139, hf⟩ := hfb hf
                      refine g_Vi X (q0 := 2) (As := [.int o18.1]) (rest := []) (w1 := (o138.2, o18.2.2.2)) (liftJ_T (m := o18.2.2.2) (c_X6_want (ad := ad) h139)) dL_writes_570 ml_L_85 yv_X6_want rfl rfl rfl rfl ⟨Nat.le_of_ble_eq_true rfl, Nat.le_of_ble_eq_true rfl⟩ ⟨rfl, rfl⟩ (Nat.le_of_ble_eq_true rfl) ⟨Nat.le_of_ble_eq_true rfl, Nat.le_of_ble_eq_true rfl⟩ ?_
                      refine g_aload_n X (i := 3) dL_writes_573 rfl rfl ?_
                      refine g_iload X dL_writes_574 rfl ?_
                      obtain ⟨hb140, hf⟩ := hfg hf
                      refine g_iald X (q0 := 95) (f := o18.2.2.2.2 2) dL_writes_576 rfl hb140 ?_
                      obtain ⟨o142, h143, hf⟩ := hfb hf
                      refine g_jn (M := 587) (lo2 := [none, none, none, none, none, none, none, none, none, none, none, none, none, none, none, none, none, none, none, none]) (st2 := [.int o142, .int o138.1]) (w2 := (o138.2, o18.2.2.2)) ?_ (fun K144 => ?_)
                      · refine g_icmp_ne X dL_writes_587 (tgt := 594) (by decide) hf (fun c145 hf => ?_) (fun c145 hf => ?_)
                        · refine g_iconst X dL_writes_590 (v := 1) (by decide) ?_
                          refine g_goto X dL_writes_591 (tgt := 595) (by decide) ?_
                          exact g_zret X hr dL_writes_595 rfl hf
                        · refine g_iconst X dL_writes_594 (v := 0) (by decide) ?_
                          exact g_zret X hr dL_writes_595 rfl hf
                      · have hf := h143
                        refine g_if_ge X dL_writes_577 (tgt := 585) (by decide) hf (fun c141 hf => ?_) (fun c141 hf => ?_)
                        · refine g_bipush X dL_writes_580 (v := (-11)) (by decide) ?_
                          refine g_goto X dL_writes_582 (tgt := 587) (by decide) ?_
                          obtain rfl := Option.some.inj hf
                          refine g_sub (losub (lo' := [none, none, none, none, none, none, none, none, none, none, none, none, none, none, none, none, none, none, none, none]) trivial) ?_
                          exact K144
                        · refine g_bipush X dL_writes_585 (v := (-12)) (by decide) ?_
                          obtain rfl := Option.some.inj hf
                          refine g_sub (losub (lo' := [none, none, none, none, none, none, none, none, none, none, none, none, none, none, none, none, none, none, none, none]) trivial) ?_
                          exact K144
                    · refine g_aload X dL_writes_558 rfl ?_
                      refine g_iload X dL_writes_560 rfl ?_
                      obtain ⟨hb146, hf⟩ := hfg hf
                      refine g_iald X (q0 := 96) (f := o18.2.2.2.2 3) dL_writes_562 rfl hb146 ?_
                      refine g_iconst X dL_writes_563 (v := 1) (by decide) ?_
                      refine g_icmp_ne X dL_writes_564 (tgt := 596) (by decide) hf (fun c147 hf => ?_) (fun c147 hf => ?_)
                      · refine g_aload_n X (i := 0) dL_writes_567 rfl rfl ?_
                        refine g_iload X dL_writes_568 rfl ?_
                        obtain ⟨o148, h149, hf⟩ := hfb hf
                        refine g_Vi X (q0 := 2) (As := [.int o18.1]) (rest := []) (w1 := (o148.2, o18.2.2.2)) (liftJ_T (m := o18.2.2.2) (c_X6_want (ad := ad) h149)) dL_writes_570 ml_L_85 yv_X6_want rfl rfl rfl rfl ⟨Nat.le_of_ble_eq_true rfl, Nat.le_of_ble_eq_true rfl⟩ ⟨rfl, rfl⟩ (Nat.le_of_ble_eq_true rfl) ⟨Nat.le_of_ble_eq_true rfl, Nat.le_of_ble_eq_true rfl⟩ ?_
                        refine g_aload_n X (i := 3) dL_writes_573 rfl rfl ?_
                        refine g_iload X dL_writes_574 rfl ?_
                        obtain ⟨hb150, hf⟩ := hfg hf
                        refine g_iald X (q0 := 95) (f := o18.2.2.2.2 2) dL_writes_576 rfl hb150 ?_
                        obtain ⟨o152, h153, hf⟩ := hfb hf
                        refine g_jn (M := 587) (lo2 := [none, none, none, none, none, none, none, none, none, none, none, none, none, none, none, none, none, none, none, none]) (st2 := [.int o152, .int o148.1]) (w2 := (o148.2, o18.2.2.2)) ?_ (fun K154 => ?_)
                        · refine g_icmp_ne X dL_writes_587 (tgt := 594) (by decide) hf (fun c155 hf => ?_) (fun c155 hf => ?_)
                          · refine g_iconst X dL_writes_590 (v := 1) (by decide) ?_
                            refine g_goto X dL_writes_591 (tgt := 595) (by decide) ?_
                            exact g_zret X hr dL_writes_595 rfl hf
                          · refine g_iconst X dL_writes_594 (v := 0) (by decide) ?_
                            exact g_zret X hr dL_writes_595 rfl hf
                        · have hf := h153
                          refine g_if_ge X dL_writes_577 (tgt := 585) (by decide) hf (fun c151 hf => ?_) (fun c151 hf => ?_)
                          · refine g_bipush X dL_writes_580 (v := (-11)) (by decide) ?_
                            refine g_goto X dL_writes_582 (tgt := 587) (by decide) ?_
                            obtain rfl := Option.some.inj hf
                            refine g_sub (losub (lo' := [none, none, none, none, none, none, none, none, none, none, none, none, none, none, none, none, none, none, none, none]) trivial) ?_
                            exact K154
                          · refine g_bipush X dL_writes_585 (v := (-12)) (by decide) ?_
                            obtain rfl := Option.some.inj hf
                            refine g_sub (losub (lo' := [none, none, none, none, none, none, none, none, none, none, none, none, none, none, none, none, none, none, none, none]) trivial) ?_
                            exact K154
                      · refine g_aload X dL_writes_596 rfl ?_
                        refine g_iload X dL_writes_598 rfl ?_
                        refine g_iconst X dL_writes_600 (v := 1) (by decide) ?_
                        obtain ⟨hb156, hf⟩ := hfg hf
                        refine g_iast X (q0 := 96) (f := o18.2.2.2.2 3) dL_writes_601 rfl hb156 (awJ_3 ad cI _ _ _) ?_
                        refine g_iconst X dL_writes_602 (v := 0) (by decide) ?_
                        refine g_istore X dL_writes_603 (by decide) rfl ?_
                        refine g_iconst X dL_writes_605 (v := 0) (by decide) ?_
                        refine g_istore X dL_writes_606 (by decide) rfl ?_
                        refine g_sub (losub (lo' := [some (.ref (ad 2)), none, none, some (.ref (ad 95)), some (.ref (ad 96)), none, none, none, none, none, none, none, some (.int o18.1), none, none, none, none, some (.int 0), some (.int 0), none]) ⟨rfl, rfl, rfl, rfl, rfl, rfl, trivial⟩) ?_
                        obtain ⟨o164, h165, hf⟩ := hfb hf
                        refine gl_L_writes_L608 X BIG h165 ?_
                        refine g_aload_n X (i := 0) dL_writes_642 rfl rfl ?_
                        refine g_iload X dL_writes_643 rfl ?_
                        obtain ⟨o166, h167, hf⟩ := hfb hf
                        refine g_Vi X (q0 := 2) (As := [.int o18.1]) (rest := []) (w1 := (o166.2, o164.2.2)) (liftJ_T (m := o164.2.2) (c_X6_want (ad := ad) h167)) dL_writes_645 ml_L_85 yv_X6_want rfl rfl rfl rfl ⟨Nat.le_of_ble_eq_true rfl, Nat.le_of_ble_eq_true rfl⟩ ⟨rfl, rfl⟩ (Nat.le_of_ble_eq_true rfl) ⟨Nat.le_of_ble_eq_true rfl, Nat.le_of_ble_eq_true rfl⟩ ?_
                        refine g_iload X dL_writes_648 rfl ?_
                        refine g_icmp_ne X dL_writes_650 (tgt := 657) (by decide) hf (fun c168 hf => ?_) (fun c168 hf => ?_)
                        · refine g_iconst X dL_writes_653 (v := 1) (by decide) ?_
                          refine g_goto X dL_writes_654 (tgt := 658) (by decide) ?_
                          exact g_zret X hr dL_writes_658 rfl hf
                        · refine g_iconst X dL_writes_657 (v := 0) (by decide) ?_
                          exact g_zret X hr dL_writes_658 rfl hf
                · refine g_iload X dL_writes_659 rfl ?_
                  refine g_iconst X dL_writes_661 (v := 3) (by decide) ?_
                  refine g_irem X dL_writes_662 (by decide) ?_
                  obtain ⟨o170, h171, hf⟩ := hfb hf
                  refine g_jn (M := 672) (lo2 := [some (.ref (ad 2)), some (.ref (ad 93)), none, some (.ref (ad 95)), none, none, some (.ref (ad 98)), some (.ref (ad 99)), some (.ref (ad 100)), none, none, none, none, none, none, none, none, none, none, none]) (st2 := [.int o170]) (w2 := o18.2.2) ?_ (fun K172 => ?_)
                  · refine g_istore X dL_writes_672 (by decide) rfl ?_
                    refine g_aload_n X (i := 1) dL_writes_674 rfl rfl ?_
                    refine g_bipush X dL_writes_675 (v := 9) (by decide) ?_
                    obtain ⟨hb173, hf⟩ := hfg hf
                    refine g_iald X (q0 := 93) (f := o18.2.2.2.2 0) dL_writes_677 rfl hb173 ?_
                    refine g_if_ne X dL_writes_678 (tgt := 698) (by decide) hf (fun c174 hf => ?_) (fun c174 hf => ?_)
                    · refine g_aload_n X (i := 0) dL_writes_681 rfl rfl ?_
                      refine g_iload X dL_writes_682 rfl ?_
                      obtain ⟨o175, h176, hf⟩ := hfb hf
                      refine g_Vi X (q0 := 2) (As := [.int o170]) (rest := []) (w1 := (o175.2, o18.2.2.2)) (liftJ_T (m := o18.2.2.2) (c_X6_finish (ad := ad) h176)) dL_writes_684 ml_L_88 yv_X6_finish rfl rfl rfl rfl ⟨Nat.le_of_ble_eq_true rfl, Nat.le_of_ble_eq_true rfl⟩ ⟨rfl, rfl⟩ (Nat.le_of_ble_eq_true rfl) ⟨Nat.le_of_ble_eq_true rfl, Nat.le_of_ble_eq_true rfl⟩ ?_
                      refine g_bipush X dL_writes_687 (v := (-12)) (by decide) ?_
                      refine g_icmp_ne X dL_writes_689 (tgt := 696) (by decide) hf (fun c177 hf => ?_) (fun c177 hf => ?_)
                      · refine g_iconst X dL_writes_692 (v := 1) (by decide) ?_
                        refine g_goto X dL_writes_693 (tgt := 697) (by decide) ?_
                        exact g_zret X hr dL_writes_697 rfl hf
                      · refine g_iconst X dL_writes_696 (v := 0) (by decide) ?_
                        exact g_zret X hr dL_writes_697 rfl hf
                    · refine g_aload X dL_writes_698 rfl ?_
                      refine g_iconst X dL_writes_700 (v := 0) (by decide) ?_
                      obtain ⟨hb178, hf⟩ := hfg hf
                      refine g_iald X (q0 := 98) (f := o18.2.2.2.2 5) dL_writes_701 rfl hb178 ?_
                      refine g_istore X dL_writes_702 (by decide) rfl ?_
                      refine g_aload_n X (i := 1) dL_writes_704 rfl rfl ?_
                      refine g_bipush X dL_writes_705 (v := 9) (by decide) ?_
                      refine g_dup2 X dL_writes_707 rfl rfl ?_
                      obtain ⟨hb179, hf⟩ := hfg hf
                      refine g_iald X (q0 := 93) (f := o18.2.2.2.2 0) dL_writes_708 rfl hb179 ?_
                      refine g_iconst X dL_writes_709 (v := 1) (by decide) ?_
                      refine g_isub X dL_writes_710 ?_
                      obtain ⟨hb180, hf⟩ := hfg hf
                      refine g_iast X (q0 := 93) (f := o18.2.2.2.2 0) dL_writes_711 rfl hb180 (awJ_0 ad cI _ _ _) ?_
                      refine g_iconst X dL_writes_712 (v := 0) (by decide) ?_
                      refine g_istore X dL_writes_713 (by decide) rfl ?_
                      obtain ⟨o185, h186, hf⟩ := hfb hf
                      refine gl_L_writes_L715 X BIG h186 ?_
                      refine g_iload X dL_writes_742 rfl ?_
                      obtain ⟨o188, h189, hf⟩ := hfb hf
                      refine g_jn (M := 761) (lo2 := [some (.ref (ad 2)), some (.ref (ad 93)), none, some (.ref (ad 95)), none, none, none, some (.ref (ad 99)), none, none, none, none, none, none, none, none, none, some (.int o170), some (.int (o18.2.2.2.2 5 (0 : Int32).toNatClampNeg)), none]) (st2 := []) (w2 := o188) ?_ (fun K190 => ?_)
                      · refine g_aload_n X (i := 1) dL_writes_761 rfl rfl ?_
                        refine g_iconst X dL_writes_762 (v := 0) (by decide) ?_
                        obtain ⟨hb193, hf⟩ := hfg hf
                        refine g_iald X (q0 := 93) (f := o188.2.2 0) dL_writes_763 rfl hb193 ?_
                        refine g_iconst X dL_writes_764 (v := 1) (by decide) ?_
                        obtain ⟨o195, h196, hf⟩ := hfb hf
                        refine g_jn (M := 784) (lo2 := [some (.ref (ad 2)), some (.ref (ad 93)), none, none, none, none, none, none, none, none, none, none, none, none, none, none, none, some (.int o170), some (.int (o18.2.2.2.2 5 (0 : Int32).toNatClampNeg)), none]) (st2 := []) (w2 := o195) ?_ (fun K197 => ?_)
                        · refine g_aload_n X (i := 1) dL_writes_784 rfl rfl ?_
                          refine g_iconst X dL_writes_785 (v := 5) (by decide) ?_
                          refine g_dup2 X dL_writes_786 rfl rfl ?_
                          obtain ⟨hb204, hf⟩ := hfg hf
                          refine g_iald X (q0 := 93) (f := o195.2.2 0) dL_writes_787 rfl hb204 ?_
                          refine g_iconst X dL_writes_788 (v := 1) (by decide) ?_
                          refine g_iadd X dL_writes_789 ?_
                          obtain ⟨hb205, hf⟩ := hfg hf
                          refine g_iast X (q0 := 93) (f := o195.2.2 0) dL_writes_790 rfl hb205 (awJ_0 ad cI _ _ _) ?_
                          refine g_aload_n X (i := 0) dL_writes_791 rfl rfl ?_
                          refine g_iload X dL_writes_792 rfl ?_
                          obtain ⟨o206, h207, hf⟩ := hfb hf
                          refine g_Vi X (q0 := 2) (As := [.int o170]) (rest := []) (w1 := (o206.2, sA o195.2 0 5 ((o195.2.2 0 (5 : Int32).toNatClampNeg) + 1))) (liftJ_T (m := sA o195.2 0 5 ((o195.2.2 0 (5 : Int32).toNatClampNeg) + 1)) (c_X6_finish (ad := ad) h207)) dL_writes_794 ml_L_88 yv_X6_finish rfl rfl rfl rfl ⟨Nat.le_of_ble_eq_true rfl, Nat.le_of_ble_eq_true rfl⟩ ⟨rfl, rfl⟩ (Nat.le_of_ble_eq_true rfl) ⟨Nat.le_of_ble_eq_true rfl, Nat.le_of_ble_eq_true rfl⟩ ?_
                          refine g_iload X dL_writes_797 rfl ?_
                          refine g_icmp_ne X dL_writes_799 (tgt := 806) (by decide) hf (fun c208 hf => ?_) (fun c208 hf => ?_)
                          · refine g_iconst X dL_writes_802 (v := 1) (by decide) ?_
                            refine g_goto X dL_writes_803 (tgt := 807) (by decide) ?_
                            exact g_zret X hr dL_writes_807 rfl hf
                          · refine g_iconst X dL_writes_806 (v := 0) (by decide) ?_
                            exact g_zret X hr dL_writes_807 rfl hf
                        · have hf := h196
                          refine g_icmp_eq X dL_writes_765 (tgt := 775) (by decide) hf (fun c194 hf => ?_) (fun c194 hf => ?_)
                          · refine g_aload_n X (i := 1) dL_writes_775 rfl rfl ?_
                            refine g_aload_n X (i := 3) dL_writes_776 rfl rfl ?_
                            refine g_aload X dL_writes_777 rfl ?_
                            refine g_iload X dL_writes_779 rfl ?_
                            obtain ⟨o198, h199, hf⟩ := hfb hf
                            refine g_Sv X (As := [.ref (ad 93), .ref (ad 95), .ref (ad 99), .int (o18.2.2.2.2 5 (0 : Int32).toNatClampNeg)]) (rest := []) (w1 := (o188.1, o198.2)) (liftJ_Rv (t := o188.1) (c_L_shade (ad := adR ad) h199)) dL_writes_781 ml_L_23 yv_L_shade rfl rfl ⟨Nat.le_of_ble_eq_true rfl, Nat.le_of_ble_eq_true rfl⟩ ⟨rfl, rfl⟩ (Nat.le_of_ble_eq_true rfl) ⟨Nat.le_of_ble_eq_true rfl, Nat.le_of_ble_eq_true rfl⟩ ?_
                            obtain rfl := Option.some.inj hf
                            refine g_sub (losub (lo' := [some (.ref (ad 2)), some (.ref (ad 93)), none, none, none, none, none, none, none, none, none, none, none, none, none, none, none, some (.int o170), some (.int (o18.2.2.2.2 5 (0 : Int32).toNatClampNeg)), none]) ⟨rfl, rfl, rfl, rfl, trivial⟩) ?_
                            exact K197
                          · refine g_aload_n X (i := 1) dL_writes_768 rfl rfl ?_
                            refine g_iconst X dL_writes_769 (v := 0) (by decide) ?_
                            obtain ⟨hb200, hf⟩ := hfg hf
                            refine g_iald X (q0 := 93) (f := o188.2.2 0) dL_writes_770 rfl hb200 ?_
                            refine g_iconst X dL_writes_771 (v := 2) (by decide) ?_
                            refine g_icmp_ne X dL_writes_772 (tgt := 784) (by decide) hf (fun c201 hf => ?_) (fun c201 hf => ?_)
                            · refine g_aload_n X (i := 1) dL_writes_775 rfl rfl ?_
                              refine g_aload_n X (i := 3) dL_writes_776 rfl rfl ?_
                              refine g_aload X dL_writes_777 rfl ?_
                              refine g_iload X dL_writes_779 rfl ?_
                              obtain ⟨o202, h203, hf⟩ := hfb hf
                              refine g_Sv X (As := [.ref (ad 93), .ref (ad 95), .ref (ad 99), .int (o18.2.2.2.2 5 (0 : Int32).toNatClampNeg)]) (rest := []) (w1 := (o188.1, o202.2)) (liftJ_Rv (t := o188.1) (c_L_shade (ad := adR ad) h203)) dL_writes_781 ml_L_23 yv_L_shade rfl rfl ⟨Nat.le_of_ble_eq_true rfl, Nat.le_of_ble_eq_true rfl⟩ ⟨rfl, rfl⟩ (Nat.le_of_ble_eq_true rfl) ⟨Nat.le_of_ble_eq_true rfl, Nat.le_of_ble_eq_true rfl⟩ ?_
                              obtain rfl := Option.some.inj hf
                              refine g_sub (losub (lo' := [some (.ref (ad 2)), some (.ref (ad 93)), none, none, none, none, none, none, none, none, none, none, none, none, none, none, none, some (.int o170), some (.int (o18.2.2.2.2 5 (0 : Int32).toNatClampNeg)), none]) ⟨rfl, rfl, rfl, rfl, trivial⟩) ?_
                              exact K197
                            · obtain rfl := Option.some.inj hf
                              refine g_sub (losub (lo' := [some (.ref (ad 2)), some (.ref (ad 93)), none, none, none, none, none, none, none, none, none, none, none, none, none, none, none, some (.int o170), some (.int (o18.2.2.2.2 5 (0 : Int32).toNatClampNeg)), none]) ⟨rfl, rfl, rfl, rfl, trivial⟩) ?_
                              exact K197
                      · have hf := h189
                        refine g_if_lt X dL_writes_744 (tgt := 761) (by decide) hf (fun c187 hf => ?_) (fun c187 hf => ?_)
                        · obtain rfl := Option.some.inj hf
                          refine g_sub (losub (lo' := [some (.ref (ad 2)), some (.ref (ad 93)), none, some (.ref (ad 95)), none, none, none, some (.ref (ad 99)), none, none, none, none, none, none, none, none, none, some (.int o170), some (.int (o18.2.2.2.2 5 (0 : Int32).toNatClampNeg)), none]) ⟨rfl, rfl, rfl, rfl, rfl, rfl, trivial⟩) ?_
                          exact K190
                        · refine g_aload_n X (i := 1) dL_writes_747 rfl rfl ?_
                          refine g_aload_n X (i := 3) dL_writes_748 rfl rfl ?_
                          refine g_aload X dL_writes_749 rfl ?_
                          refine g_aload X dL_writes_751 rfl ?_
                          refine g_iload X dL_writes_753 rfl ?_
                          refine g_iload X dL_writes_755 rfl ?_
                          obtain ⟨o191, h192, hf⟩ := hfb hf
                          refine g_Si X (As := [.ref (ad 93), .ref (ad 95), .ref (ad 99), .ref (ad 100), .int o170, .int (o18.2.2.2.2 5 (0 : Int32).toNatClampNeg)]) (rest := []) (w1 := (o185.1, o191.2)) (liftJ_Ri (t := o185.1) (c_L_writeRoot (ad := adR ad) h192)) dL_writes_757 ml_L_75 yv_L_writeRoot rfl rfl ⟨Nat.le_of_ble_eq_true rfl, Nat.le_of_ble_eq_true rfl⟩ ⟨rfl, rfl⟩ (Nat.le_of_ble_eq_true rfl) ⟨Nat.le_of_ble_eq_true rfl, Nat.le_of_ble_eq_true rfl⟩ ?_
                          refine g_pop X dL_writes_760 rfl ?_
                          obtain rfl := Option.some.inj hf
                          refine g_sub (losub (lo' := [some (.ref (ad 2)), some (.ref (ad 93)), none, some (.ref (ad 95)), none, none, none, some (.ref (ad 99)), none, none, none, none, none, none, none, none, none, some (.int o170), some (.int (o18.2.2.2.2 5 (0 : Int32).toNatClampNeg)), none]) ⟨rfl, rfl, rfl, rfl, rfl, rfl, trivial⟩) ?_
                          exact K190
                  · have hf := h171
                    refine g_if_ne X dL_writes_663 (tgt := 670) (by decide) hf (fun c169 hf => ?_) (fun c169 hf => ?_)
                    · refine g_iconst X dL_writes_666 (v := (-1)) (by decide) ?_
                      refine g_goto X dL_writes_667 (tgt := 672) (by decide) ?_
                      obtain rfl := Option.some.inj hf
                      refine g_sub (losub (lo' := [some (.ref (ad 2)), some (.ref (ad 93)), none, some (.ref (ad 95)), none, none, some (.ref (ad 98)), some (.ref (ad 99)), some (.ref (ad 100)), none, none, none, none, none, none, none, none, none, none, none]) ⟨rfl, rfl, rfl, rfl, rfl, rfl, trivial⟩) ?_
                      exact K172
                    · refine g_iload X dL_writes_670 rfl ?_
                      obtain rfl := Option.some.inj hf
                      refine g_sub (losub (lo' := [some (.ref (ad 2)), some (.ref (ad 93)), none, some (.ref (ad 95)), none, none, some (.ref (ad 98)), some (.ref (ad 99)), some (.ref (ad 100)), none, none, none, none, none, none, none, none, none, none, none]) ⟨rfl, rfl, rfl, rfl, rfl, rfl, trivial⟩) ?_
                      exact K172
      · have hf := h27
        refine g_if_lt X dL_writes_153 (tgt := 168) (by decide) hf (fun c25 hf => ?_) (fun c25 hf => ?_)
        · refine g_bipush X dL_writes_168 (v := (-12)) (by decide) ?_
          obtain rfl := Option.some.inj hf
          exact K28
        · refine g_aload_n X (i := 3) dL_writes_156 rfl rfl ?_
          refine g_iload X dL_writes_157 rfl ?_
          obtain ⟨hb29, hf⟩ := hfg hf
          refine g_iald X (q0 := 95) (f := o18.2.2.2.2 2) dL_writes_159 rfl hb29 ?_
          refine g_if_ge X dL_writes_160 (tgt := 168) (by decide) hf (fun c30 hf => ?_) (fun c30 hf => ?_)
          · refine g_bipush X dL_writes_163 (v := (-11)) (by decide) ?_
            refine g_goto X dL_writes_165 (tgt := 170) (by decide) ?_
            obtain rfl := Option.some.inj hf
            exact K28
          · refine g_bipush X dL_writes_168 (v := (-12)) (by decide) ?_
            obtain rfl := Option.some.inj hf
            exact K28
    · have hf := h22
      refine g_if_lt X dL_writes_130 (tgt := 144) (by decide) hf (fun c20 hf => ?_) (fun c20 hf => ?_)
      · refine g_iconst X dL_writes_144 (v := 1) (by decide) ?_
        refine g_goto X dL_writes_145 (tgt := 149) (by decide) ?_
        obtain rfl := Option.some.inj hf
        exact K23
      · refine g_iload X dL_writes_133 rfl ?_
        refine g_iload X dL_writes_135 rfl ?_
        refine g_ishr X dL_writes_137 ?_
        refine g_iconst X dL_writes_138 (v := 1) (by decide) ?_
        refine g_iand X dL_writes_139 ?_
        refine g_iconst X dL_writes_140 (v := 1) (by decide) ?_
        refine g_icmp_ne X dL_writes_141 (tgt := 148) (by decide) hf (fun c24 hf => ?_) (fun c24 hf => ?_)
        · refine g_iconst X dL_writes_144 (v := 1) (by decide) ?_
          refine g_goto X dL_writes_145 (tgt := 149) (by decide) ?_
          obtain rfl := Option.some.inj hf
          exact K23
        · refine g_iconst X dL_writes_148 (v := 0) (by decide) ?_
          obtain rfl := Option.some.inj hf
          exact K23
  · have hf := h5
    refine g_if_ne X dL_writes_22 (tgt := 29) (by decide) hf (fun c3 hf => ?_) (fun c3 hf => ?_)
    · refine g_iconst X dL_writes_25 (v := (-1)) (by decide) ?_
      refine g_goto X dL_writes_26 (tgt := 37) (by decide) ?_
      obtain rfl := Option.some.inj hf
      refine g_sub (losub (lo' := [some (.ref (ad 2)), some (.ref (ad 93)), some (.ref (ad 94)), some (.ref (ad 95)), some (.ref (ad 96)), none, some (.ref (ad 98)), some (.ref (ad 99)), some (.ref (ad 100)), some (.int x1), some (.int x2), some (.int o1.1), some (.int (x2 - x2 / 24 * 24)), none, none, none, none, none, none, none]) ⟨rfl, rfl, rfl, rfl, rfl, rfl, rfl, rfl, rfl, rfl, rfl, rfl, trivial⟩) ?_
      exact K6
    · refine g_iload X dL_writes_29 rfl ?_
      refine g_bipush X dL_writes_31 (v := 24) (by decide) ?_
      refine g_idiv X dL_writes_33 (by decide) ?_
      refine g_bipush X dL_writes_34 (v := 24) (by decide) ?_
      refine g_irem X dL_writes_36 (by decide) ?_
      obtain rfl := Option.some.inj hf
      refine g_sub (losub (lo' := [some (.ref (ad 2)), some (.ref (ad 93)), some (.ref (ad 94)), some (.ref (ad 95)), some (.ref (ad 96)), none, some (.ref (ad 98)), some (.ref (ad 99)), some (.ref (ad 100)), some (.int x1), some (.int x2), some (.int o1.1), some (.int (x2 - x2 / 24 * 24)), none, none, none, none, none, none, none]) ⟨rfl, rfl, rfl, rfl, rfl, rfl, rfl, rfl, rfl, rfl, rfl, rfl, trivial⟩) ?_
      exact K6
def f_L_acts_L30 : Nat → Int32 → Int32 → JT → Option (Int32 × JT)
  | 0, _, _, _ => none
  | n + 1, x10, x12, w => (if x12 < 24 then if ib x12 24 then (if (w.2.2 2 x12.toNatClampNeg) < 0 then some (x12, w) else f_L_acts_L30 n x10 (x12 + 1) w) else none else some (x12, w))
def f_L_acts (x1 : Int32) (w : JT) : Option (Int32 × JT) := (f_L_low (x1 >>> (5 &&& 31)) 10000000 w).bind fun o1 => (f_L_low x1 32 o1.2).bind fun o3 => (if o3.1 < 8 then (f_L_acts_L30 BIG o1.1 0 o3.2).bind fun o9 => (if o9.1 = 24 then (f_X6_make (o1.1 - o1.1 / 4 * 4) o9.2.1).bind fun o12 => (if o12.1 = (-13) then some (1, (o12.2, o9.2.2)) else some (0, (o12.2, o9.2.2))) else if ib 0 11 then (if (o9.2.2.2 0 (0 : Int32).toNatClampNeg) = 1 then some ((2 : Int32)) else if ib 0 11 then (if (o9.2.2.2 0 (0 : Int32).toNatClampNeg) = 2 then some ((2 : Int32)) else if ib 0 11 then (if (o9.2.2.2 0 (0 : Int32).toNatClampNeg) = 3 then if ib 1 11 then (if o9.1 < (o9.2.2.2 0 (1 : Int32).toNatClampNeg) then some ((0 : Int32)) else some ((2 : Int32))) else none else some ((0 : Int32))) else none) else none).bind fun o17 => if ib o9.1 24 then if ib o9.1 24 then if ib o9.1 24 then if ib o9.1 24 then if ib 3 11 then if ib 3 11 then (f_L_writeRoot (o1.1 - o1.1 / 4 * 4) o9.1 (sA (sA (sA (sA (sA o9.2.2 2 o9.1 o17) 3 o9.1 0) 4 o9.1 0) 1 o9.1 0) 0 3 ((o9.2.2.2 0 (3 : Int32).toNatClampNeg) + 1))).bind fun o32 => (f_X6_make (o1.1 - o1.1 / 4 * 4) o9.2.1).bind fun o34 => (if o34.1 = o9.1 then some (1, (o34.2, o32.2)) else some (0, (o34.2, o32.2))) else none else none else none else none else none else none else none) else (if o3.1 < 25 then (if o3.1 < 15 then some ((0 : Int32)) else (if o3.1 < 18 then some ((1 : Int32)) else (if o3.1 < 20 then some ((2 : Int32)) else (if o3.1 = 20 then some ((3 : Int32)) else (if o3.1 < 23 then some ((4 : Int32)) else some ((5 : Int32))))))).bind fun o39 => (f_L_writes o39 o1.1 o3.2).bind fun o46 => if o46.1 = 0 ∨ o46.1 = 1 then some (o46.1, o46.2) else none else (if o3.1 < 27 then some ((0 : Int32)) else (if o3.1 < 30 then some ((1 : Int32)) else (if o3.1 = 30 then some ((2 : Int32)) else some ((3 : Int32))))).bind fun o50 => (f_L_searches o50 o1.1 o3.2).bind fun o55 => if o55.1 = 0 ∨ o55.1 = 1 then some (o55.1, o55.2) else none))
set_option maxRecDepth 100000 in
set_option maxHeartbeats 4000000 in
theorem gl_L_acts_L30 {p : Program} {l : Launch} {e : Env} {s : State} {m : MethodId} {args : Array Value} {below : List Frame} {meth : Method} {c : Code} {D : va_G} {A : Nat → Prop} {cI : ClassId × ClassId} {ad : Nat → Nat} {Q : State → Prop} {o : Int32 × JT} (X : gX p s m args meth c cL_acts 13 RL D cI) (n : Nat) : ∀ {x10 x12 : Int32} {w : JT}, f_L_acts_L30 n x10 x12 w = some o → G p l e rm_L_acts s m args below meth c D A 13 Q (wJ [] ad cI) 0 0 50 [some (.ref (ad 2)), some (.ref (ad 93)), some (.ref (ad 94)), some (.ref (ad 95)), some (.ref (ad 96)), some (.ref (ad 97)), none, some (.ref (ad 99)), some (.ref (ad 100)), none, some (.int x10), none, some (.int o.1)] [] o.2 → G p l e rm_L_acts s m args below meth c D A 13 Q (wJ [] ad cI) 0 0 30 [some (.ref (ad 2)), some (.ref (ad 93)), some (.ref (ad 94)), some (.ref (ad 95)), some (.ref (ad 96)), some (.ref (ad 97)), none, some (.ref (ad 99)), some (.ref (ad 100)), none, some (.int x10), none, some (.int x12)] [] w := by
  induction n with
  | zero => intro x10 x12 w hf; cases hf
  | succ n ih =>
    intro x10 x12 w hf k
    rw [f_L_acts_L30] at hf
    refine g_iload X dL_acts_30 rfl ?_
    refine g_bipush X dL_acts_32 (v := 24) (by decide) ?_
    refine g_icmp_ge X dL_acts_34 (tgt := 50) (by decide) hf (fun c6 hf => ?_) (fun c6 hf => ?_)
    · refine g_aload_n X (i := 3) dL_acts_37 rfl rfl ?_
      refine g_iload X dL_acts_38 rfl ?_
      obtain ⟨hb7, hf⟩ := hfg hf
      refine g_iald X (q0 := 95) (f := w.2.2 2) dL_acts_40 rfl hb7 ?_
      refine g_if_lt X dL_acts_41 (tgt := 50) (by decide) hf (fun c8 hf => ?_) (fun c8 hf => ?_)
      · obtain rfl := Option.some.inj hf
        exact k
      · refine g_iinc X (i := 12) (v := 1) dL_acts_44 rfl (by decide) (by decide) rfl ?_
        refine g_goto X dL_acts_47 (tgt := 30) (by decide) ?_
        exact ih hf k
    · obtain rfl := Option.some.inj hf
      exact k
set_option maxRecDepth 100000 in
set_option maxHeartbeats 4000000 in
theorem c_L_acts {l : Launch} {D : va_G} {cI : ClassId × ClassId} {A : Nat → Prop} {ad : Nat → Nat} {x1 : Int32} {w : JT} {o : Int32 × JT} (hf : f_L_acts x1 w = some o) : CTi l D cI A yL_acts cL_acts 13 (some .boolean) rm_L_acts [.ref (ad 2), .ref (ad 93), .ref (ad 94), .ref (ad 95), .ref (ad 96), .ref (ad 97), .ref (ad 98), .ref (ad 99), .ref (ad 100), .int x1] ((wJ [] ad cI) w) o.1 ((wJ [] ad cI) o.2)   := by
  refine CTi.of (by decide +kernel) rfl (Nat.le_of_ble_eq_true rfl) ?_
  intro p e s m args below meth c X hr
  have X : gX p s m args meth c cL_acts 13 RL D cI := X
  show G _ _ _ _ _ _ _ _ _ _ _ _ _ _ _ _ _ 0 [some (.ref (ad 2)), some (.ref (ad 93)), some (.ref (ad 94)), some (.ref (ad 95)), some (.ref (ad 96)), some (.ref (ad 97)), some (.ref (ad 98)), some (.ref (ad 99)), some (.ref (ad 100)), some (.int x1), none, none, none] [] w
  unfold f_L_acts at hf
  refine g_iload X dL_acts_0 rfl ?_
  refine g_iconst X dL_acts_2 (v := 5) (by decide) ?_
  refine g_ishr X dL_acts_3 ?_
  refine g_ldc X (v := 10000000) dL_acts_4 (tb2 23 rfl) ?_
  obtain ⟨o1, h2, hf⟩ := hfb hf
  refine g_Si X (As := [.int (x1 >>> (5 &&& 31)), .int 10000000]) (rest := []) (c_L_low (wf := (wJ [] ad cI)) h2) dL_acts_6 ml_L_92 yv_L_low rfl rfl ⟨Nat.le_of_ble_eq_true rfl, Nat.le_of_ble_eq_true rfl⟩ ⟨rfl, rfl⟩ (Nat.le_of_ble_eq_true rfl) ⟨Nat.le_of_ble_eq_true rfl, Nat.le_of_ble_eq_true rfl⟩ ?_
  refine g_istore X dL_acts_9 (by decide) rfl ?_
  refine g_iload X dL_acts_11 rfl ?_
  refine g_bipush X dL_acts_13 (v := 32) (by decide) ?_
  obtain ⟨o3, h4, hf⟩ := hfb hf
  refine g_Si X (As := [.int x1, .int 32]) (rest := []) (c_L_low (wf := (wJ [] ad cI)) h4) dL_acts_15 ml_L_92 yv_L_low rfl rfl ⟨Nat.le_of_ble_eq_true rfl, Nat.le_of_ble_eq_true rfl⟩ ⟨rfl, rfl⟩ (Nat.le_of_ble_eq_true rfl) ⟨Nat.le_of_ble_eq_true rfl, Nat.le_of_ble_eq_true rfl⟩ ?_
  refine g_istore X dL_acts_18 (by decide) rfl ?_
  refine g_iload X dL_acts_20 rfl ?_
  refine g_bipush X dL_acts_22 (v := 8) (by decide) ?_
  refine g_icmp_ge X dL_acts_24 (tgt := 173) (by decide) hf (fun c5 hf => ?_) (fun c5 hf => ?_)
  · refine g_iconst X dL_acts_27 (v := 0) (by decide) ?_
    refine g_istore X dL_acts_28 (by decide) rfl ?_
    refine g_sub (losub (lo' := [some (.ref (ad 2)), some (.ref (ad 93)), some (.ref (ad 94)), some (.ref (ad 95)), some (.ref (ad 96)), some (.ref (ad 97)), none, some (.ref (ad 99)), some (.ref (ad 100)), none, some (.int o1.1), none, some (.int 0)]) ⟨rfl, rfl, rfl, rfl, rfl, rfl, rfl, rfl, rfl, rfl, trivial⟩) ?_
    obtain ⟨o9, h10, hf⟩ := hfb hf
    refine gl_L_acts_L30 X BIG h10 ?_
    refine g_iload X dL_acts_50 rfl ?_
    refine g_bipush X dL_acts_52 (v := 24) (by decide) ?_
    refine g_icmp_ne X dL_acts_54 (tgt := 76) (by decide) hf (fun c11 hf => ?_) (fun c11 hf => ?_)
    · refine g_aload_n X (i := 0) dL_acts_57 rfl rfl ?_
      refine g_iload X dL_acts_58 rfl ?_
      refine g_iconst X dL_acts_60 (v := 4) (by decide) ?_
      refine g_irem X dL_acts_61 (by decide) ?_
      obtain ⟨o12, h13, hf⟩ := hfb hf
      refine g_Vi X (q0 := 2) (As := [.int (o1.1 - o1.1 / 4 * 4)]) (rest := []) (w1 := (o12.2, o9.2.2)) (liftJ_T (m := o9.2.2) (c_X6_make (ad := ad) h13)) dL_acts_62 ml_L_95 yv_X6_make rfl rfl rfl rfl ⟨Nat.le_of_ble_eq_true rfl, Nat.le_of_ble_eq_true rfl⟩ ⟨rfl, rfl⟩ (Nat.le_of_ble_eq_true rfl) ⟨Nat.le_of_ble_eq_true rfl, Nat.le_of_ble_eq_true rfl⟩ ?_
      refine g_bipush X dL_acts_65 (v := (-13)) (by decide) ?_
      refine g_icmp_ne X dL_acts_67 (tgt := 74) (by decide) hf (fun c14 hf => ?_) (fun c14 hf => ?_)
      · refine g_iconst X dL_acts_70 (v := 1) (by decide) ?_
        refine g_goto X dL_acts_71 (tgt := 75) (by decide) ?_
        exact g_zret X hr dL_acts_75 rfl hf
      · refine g_iconst X dL_acts_74 (v := 0) (by decide) ?_
        exact g_zret X hr dL_acts_75 rfl hf
    · refine g_aload_n X (i := 3) dL_acts_76 rfl rfl ?_
      refine g_iload X dL_acts_77 rfl ?_
      refine g_aload_n X (i := 1) dL_acts_79 rfl rfl ?_
      refine g_iconst X dL_acts_80 (v := 0) (by decide) ?_
      obtain ⟨hb15, hf⟩ := hfg hf
      refine g_iald X (q0 := 93) (f := o9.2.2.2 0) dL_acts_81 rfl hb15 ?_
      refine g_iconst X dL_acts_82 (v := 1) (by decide) ?_
      obtain ⟨o17, h18, hf⟩ := hfb hf
      refine g_jn (M := 113) (lo2 := [some (.ref (ad 2)), some (.ref (ad 93)), some (.ref (ad 94)), some (.ref (ad 95)), some (.ref (ad 96)), some (.ref (ad 97)), none, some (.ref (ad 99)), some (.ref (ad 100)), none, some (.int o1.1), none, some (.int o9.1)]) (st2 := [.int o17, .int o9.1, .ref (ad 95)]) (w2 := o9.2) ?_ (fun K19 => ?_)
      · obtain ⟨hb26, hf⟩ := hfg hf
        refine g_iast X (q0 := 95) (f := o9.2.2.2 2) dL_acts_113 rfl hb26 (awJ_2 ad cI _ _ _) ?_
        refine g_aload X dL_acts_114 rfl ?_
        refine g_iload X dL_acts_116 rfl ?_
        refine g_iconst X dL_acts_118 (v := 0) (by decide) ?_
        obtain ⟨hb27, hf⟩ := hfg hf
        refine g_iast X (q0 := 96) (f := o9.2.2.2 3) dL_acts_119 rfl hb27 (awJ_3 ad cI _ _ _) ?_
        refine g_aload X dL_acts_120 rfl ?_
        refine g_iload X dL_acts_122 rfl ?_
        refine g_iconst X dL_acts_124 (v := 0) (by decide) ?_
        obtain ⟨hb28, hf⟩ := hfg hf
        refine g_iast X (q0 := 97) (f := o9.2.2.2 4) dL_acts_125 rfl hb28 (awJ_4 ad cI _ _ _) ?_
        refine g_aload_n X (i := 2) dL_acts_126 rfl rfl ?_
        refine g_iload X dL_acts_127 rfl ?_
        refine g_iconst X dL_acts_129 (v := 0) (by decide) ?_
        obtain ⟨hb29, hf⟩ := hfg hf
        refine g_iast X (q0 := 94) (f := o9.2.2.2 1) dL_acts_130 rfl hb29 (awJ_1 ad cI _ _ _) ?_
        refine g_aload_n X (i := 1) dL_acts_131 rfl rfl ?_
        refine g_iconst X dL_acts_132 (v := 3) (by decide) ?_
        refine g_dup2 X dL_acts_133 rfl rfl ?_
        obtain ⟨hb30, hf⟩ := hfg hf
        refine g_iald X (q0 := 93) (f := o9.2.2.2 0) dL_acts_134 rfl hb30 ?_
        refine g_iconst X dL_acts_135 (v := 1) (by decide) ?_
        refine g_iadd X dL_acts_136 ?_
        obtain ⟨hb31, hf⟩ := hfg hf
        refine g_iast X (q0 := 93) (f := o9.2.2.2 0) dL_acts_137 rfl hb31 (awJ_0 ad cI _ _ _) ?_
        refine g_aload_n X (i := 1) dL_acts_138 rfl rfl ?_
        refine g_aload_n X (i := 3) dL_acts_139 rfl rfl ?_
        refine g_aload X dL_acts_140 rfl ?_
        refine g_aload X dL_acts_142 rfl ?_
        refine g_iload X dL_acts_144 rfl ?_
        refine g_iconst X dL_acts_146 (v := 4) (by decide) ?_
        refine g_irem X dL_acts_147 (by decide) ?_
        refine g_iload X dL_acts_148 rfl ?_
        obtain ⟨o32, h33, hf⟩ := hfb hf
        refine g_Si X (As := [.ref (ad 93), .ref (ad 95), .ref (ad 99), .ref (ad 100), .int (o1.1 - o1.1 / 4 * 4), .int o9.1]) (rest := []) (w1 := (o9.2.1, o32.2)) (liftJ_Ri (t := o9.2.1) (c_L_writeRoot (ad := adR ad) h33)) dL_acts_150 ml_L_75 yv_L_writeRoot rfl rfl ⟨Nat.le_of_ble_eq_true rfl, Nat.le_of_ble_eq_true rfl⟩ ⟨rfl, rfl⟩ (Nat.le_of_ble_eq_true rfl) ⟨Nat.le_of_ble_eq_true rfl, Nat.le_of_ble_eq_true rfl⟩ ?_
        refine g_pop X dL_acts_153 rfl ?_
        refine g_aload_n X (i := 0) dL_acts_154 rfl rfl ?_
        refine g_iload X dL_acts_155 rfl ?_
        refine g_iconst X dL_acts_157 (v := 4) (by decide) ?_
        refine g_irem X dL_acts_158 (by decide) ?_
        obtain ⟨o34, h35, hf⟩ := hfb hf
        refine g_Vi X (q0 := 2) (As := [.int (o1.1 - o1.1 / 4 * 4)]) (rest := []) (w1 := (o34.2, o32.2)) (liftJ_T (m := o32.2) (c_X6_make (ad := ad) h35)) dL_acts_159 ml_L_95 yv_X6_make rfl rfl rfl rfl ⟨Nat.le_of_ble_eq_true rfl, Nat.le_of_ble_eq_true rfl⟩ ⟨rfl, rfl⟩ (Nat.le_of_ble_eq_true rfl) ⟨Nat.le_of_ble_eq_true rfl, Nat.le_of_ble_eq_true rfl⟩ ?_
        refine g_iload X dL_acts_162 rfl ?_
        refine g_icmp_ne X dL_acts_164 (tgt := 171) (by decide) hf (fun c36 hf => ?_) (fun c36 hf => ?_)
        · refine g_iconst X dL_acts_167 (v := 1) (by decide) ?_
          refine g_goto X dL_acts_168 (tgt := 172) (by decide) ?_
          exact g_zret X hr dL_acts_172 rfl hf
        · refine g_iconst X dL_acts_171 (v := 0) (by decide) ?_
          exact g_zret X hr dL_acts_172 rfl hf
      · have hf := h18
        refine g_icmp_eq X dL_acts_83 (tgt := 108) (by decide) hf (fun c16 hf => ?_) (fun c16 hf => ?_)
        · refine g_iconst X dL_acts_108 (v := 2) (by decide) ?_
          refine g_goto X dL_acts_109 (tgt := 113) (by decide) ?_
          obtain rfl := Option.some.inj hf
          exact K19
        · refine g_aload_n X (i := 1) dL_acts_86 rfl rfl ?_
          refine g_iconst X dL_acts_87 (v := 0) (by decide) ?_
          obtain ⟨hb20, hf⟩ := hfg hf
          refine g_iald X (q0 := 93) (f := o9.2.2.2 0) dL_acts_88 rfl hb20 ?_
          refine g_iconst X dL_acts_89 (v := 2) (by decide) ?_
          refine g_icmp_eq X dL_acts_90 (tgt := 108) (by decide) hf (fun c21 hf => ?_) (fun c21 hf => ?_)
          · refine g_iconst X dL_acts_108 (v := 2) (by decide) ?_
            refine g_goto X dL_acts_109 (tgt := 113) (by decide) ?_
            obtain rfl := Option.some.inj hf
            exact K19
          · refine g_aload_n X (i := 1) dL_acts_93 rfl rfl ?_
            refine g_iconst X dL_acts_94 (v := 0) (by decide) ?_
            obtain ⟨hb22, hf⟩ := hfg hf
            refine g_iald X (q0 := 93) (f := o9.2.2.2 0) dL_acts_95 rfl hb22 ?_
            refine g_iconst X dL_acts_96 (v := 3) (by decide) ?_
            refine g_icmp_ne X dL_acts_97 (tgt := 112) (by decide) hf (fun c23 hf => ?_) (fun c23 hf => ?_)
            · refine g_iload X dL_acts_100 rfl ?_
              refine g_aload_n X (i := 1) dL_acts_102 rfl rfl ?_
              refine g_iconst X dL_acts_103 (v := 1) (by decide) ?_
              obtain ⟨hb24, hf⟩ := hfg hf
              refine g_iald X (q0 := 93) (f := o9.2.2.2 0) dL_acts_104 rfl hb24 ?_
              refine g_icmp_lt X dL_acts_105 (tgt := 112) (by decide) hf (fun c25 hf => ?_) (fun c25 hf => ?_)
              · refine g_iconst X dL_acts_112 (v := 0) (by decide) ?_
                obtain rfl := Option.some.inj hf
                exact K19
              · refine g_iconst X dL_acts_108 (v := 2) (by decide) ?_
                refine g_goto X dL_acts_109 (tgt := 113) (by decide) ?_
                obtain rfl := Option.some.inj hf
                exact K19
            · refine g_iconst X dL_acts_112 (v := 0) (by decide) ?_
              obtain rfl := Option.some.inj hf
              exact K19
  · refine g_iload X dL_acts_173 rfl ?_
    refine g_bipush X dL_acts_175 (v := 25) (by decide) ?_
    refine g_icmp_ge X dL_acts_177 (tgt := 256) (by decide) hf (fun c37 hf => ?_) (fun c37 hf => ?_)
    · refine g_aload_n X (i := 0) dL_acts_180 rfl rfl ?_
      refine g_aload_n X (i := 1) dL_acts_181 rfl rfl ?_
      refine g_aload_n X (i := 2) dL_acts_182 rfl rfl ?_
      refine g_aload_n X (i := 3) dL_acts_183 rfl rfl ?_
      refine g_aload X dL_acts_184 rfl ?_
      refine g_aload X dL_acts_186 rfl ?_
      refine g_aload X dL_acts_188 rfl ?_
      refine g_aload X dL_acts_190 rfl ?_
      refine g_aload X dL_acts_192 rfl ?_
      refine g_iload X dL_acts_194 rfl ?_
      refine g_bipush X dL_acts_196 (v := 15) (by decide) ?_
      obtain ⟨o39, h40, hf⟩ := hfb hf
      refine g_jn (M := 250) (lo2 := [none, none, none, none, none, none, none, none, none, none, some (.int o1.1), none, none]) (st2 := [.int o39, .ref (ad 100), .ref (ad 99), .ref (ad 98), .ref (ad 97), .ref (ad 96), .ref (ad 95), .ref (ad 94), .ref (ad 93), .ref (ad 2)]) (w2 := o3.2) ?_ (fun K41 => ?_)
      · refine g_iload X dL_acts_250 rfl ?_
        obtain ⟨o46, h47, hf⟩ := hfb hf
        refine g_Si X (As := [.ref (ad 2), .ref (ad 93), .ref (ad 94), .ref (ad 95), .ref (ad 96), .ref (ad 97), .ref (ad 98), .ref (ad 99), .ref (ad 100), .int o39, .int o1.1]) (rest := []) (c_L_writes (ad := ad) h47) dL_acts_252 ml_L_98 yv_L_writes rfl rfl ⟨Nat.le_of_ble_eq_true rfl, Nat.le_of_ble_eq_true rfl⟩ ⟨rfl, rfl⟩ (Nat.le_of_ble_eq_true rfl) ⟨Nat.le_of_ble_eq_true rfl, Nat.le_of_ble_eq_true rfl⟩ ?_
        obtain ⟨hz48, hf⟩ := hfg hf
        exact g_zret X hr dL_acts_255 (zb hz48) hf
      · have hf := h40
        refine g_icmp_ge X dL_acts_198 (tgt := 205) (by decide) hf (fun c38 hf => ?_) (fun c38 hf => ?_)
        · refine g_iconst X dL_acts_201 (v := 0) (by decide) ?_
          refine g_goto X dL_acts_202 (tgt := 250) (by decide) ?_
          obtain rfl := Option.some.inj hf
          refine g_sub (losub (lo' := [none, none, none, none, none, none, none, none, none, none, some (.int o1.1), none, none]) ⟨rfl, trivial⟩) ?_
          exact K41
        · refine g_iload X dL_acts_205 rfl ?_
          refine g_bipush X dL_acts_207 (v := 18) (by decide) ?_
          refine g_icmp_ge X dL_acts_209 (tgt := 216) (by decide) hf (fun c42 hf => ?_) (fun c42 hf => ?_)
          · refine g_iconst X dL_acts_212 (v := 1) (by decide) ?_
            refine g_goto X dL_acts_213 (tgt := 250) (by decide) ?_
            obtain rfl := Option.some.inj hf
            refine g_sub (losub (lo' := [none, none, none, none, none, none, none, none, none, none, some (.int o1.1), none, none]) ⟨rfl, trivial⟩) ?_
            exact K41
          · refine g_iload X dL_acts_216 rfl ?_
            refine g_bipush X dL_acts_218 (v := 20) (by decide) ?_
            refine g_icmp_ge X dL_acts_220 (tgt := 227) (by decide) hf (fun c43 hf => ?_) (fun c43 hf => ?_)
            · refine g_iconst X dL_acts_223 (v := 2) (by decide) ?_
              refine g_goto X dL_acts_224 (tgt := 250) (by decide) ?_
              obtain rfl := Option.some.inj hf
              refine g_sub (losub (lo' := [none, none, none, none, none, none, none, none, none, none, some (.int o1.1), none, none]) ⟨rfl, trivial⟩) ?_
              exact K41
            · refine g_iload X dL_acts_227 rfl ?_
              refine g_bipush X dL_acts_229 (v := 20) (by decide) ?_
              refine g_icmp_ne X dL_acts_231 (tgt := 238) (by decide) hf (fun c44 hf => ?_) (fun c44 hf => ?_)
              · refine g_iconst X dL_acts_234 (v := 3) (by decide) ?_
                refine g_goto X dL_acts_235 (tgt := 250) (by decide) ?_
                obtain rfl := Option.some.inj hf
                refine g_sub (losub (lo' := [none, none, none, none, none, none, none, none, none, none, some (.int o1.1), none, none]) ⟨rfl, trivial⟩) ?_
                exact K41
              · refine g_iload X dL_acts_238 rfl ?_
                refine g_bipush X dL_acts_240 (v := 23) (by decide) ?_
                refine g_icmp_ge X dL_acts_242 (tgt := 249) (by decide) hf (fun c45 hf => ?_) (fun c45 hf => ?_)
                · refine g_iconst X dL_acts_245 (v := 4) (by decide) ?_
                  refine g_goto X dL_acts_246 (tgt := 250) (by decide) ?_
                  obtain rfl := Option.some.inj hf
                  refine g_sub (losub (lo' := [none, none, none, none, none, none, none, none, none, none, some (.int o1.1), none, none]) ⟨rfl, trivial⟩) ?_
                  exact K41
                · refine g_iconst X dL_acts_249 (v := 5) (by decide) ?_
                  obtain rfl := Option.some.inj hf
                  refine g_sub (losub (lo' := [none, none, none, none, none, none, none, none, none, none, some (.int o1.1), none, none]) ⟨rfl, trivial⟩) ?_
                  exact K41
    · refine g_aload_n X (i := 0) dL_acts_256 rfl rfl ?_
      refine g_aload_n X (i := 1) dL_acts_257 rfl rfl ?_
      refine g_aload_n X (i := 2) dL_acts_258 rfl rfl ?_
      refine g_aload_n X (i := 3) dL_acts_259 rfl rfl ?_
      refine g_aload X dL_acts_260 rfl ?_
      refine g_aload X dL_acts_262 rfl ?_
      refine g_aload X dL_acts_264 rfl ?_
      refine g_aload X dL_acts_266 rfl ?_
      refine g_aload X dL_acts_268 rfl ?_
      refine g_iload X dL_acts_270 rfl ?_
      refine g_bipush X dL_acts_272 (v := 27) (by decide) ?_
      obtain ⟨o50, h51, hf⟩ := hfb hf
      refine g_jn (M := 304) (lo2 := [none, none, none, none, none, none, none, none, none, none, some (.int o1.1), none, none]) (st2 := [.int o50, .ref (ad 100), .ref (ad 99), .ref (ad 98), .ref (ad 97), .ref (ad 96), .ref (ad 95), .ref (ad 94), .ref (ad 93), .ref (ad 2)]) (w2 := o3.2) ?_ (fun K52 => ?_)
      · refine g_iload X dL_acts_304 rfl ?_
        obtain ⟨o55, h56, hf⟩ := hfb hf
        refine g_Si X (As := [.ref (ad 2), .ref (ad 93), .ref (ad 94), .ref (ad 95), .ref (ad 96), .ref (ad 97), .ref (ad 98), .ref (ad 99), .ref (ad 100), .int o50, .int o1.1]) (rest := []) (c_L_searches (ad := ad) h56) dL_acts_306 ml_L_102 yv_L_searches rfl rfl ⟨Nat.le_of_ble_eq_true rfl, Nat.le_of_ble_eq_true rfl⟩ ⟨rfl, rfl⟩ (Nat.le_of_ble_eq_true rfl) ⟨Nat.le_of_ble_eq_true rfl, Nat.le_of_ble_eq_true rfl⟩ ?_
        obtain ⟨hz57, hf⟩ := hfg hf
        exact g_zret X hr dL_acts_309 (zb hz57) hf
      · have hf := h51
        refine g_icmp_ge X dL_acts_274 (tgt := 281) (by decide) hf (fun c49 hf => ?_) (fun c49 hf => ?_)
        · refine g_iconst X dL_acts_277 (v := 0) (by decide) ?_
          refine g_goto X dL_acts_278 (tgt := 304) (by decide) ?_
          obtain rfl := Option.some.inj hf
          refine g_sub (losub (lo' := [none, none, none, none, none, none, none, none, none, none, some (.int o1.1), none, none]) ⟨rfl, trivial⟩) ?_
          exact K52
        · refine g_iload X dL_acts_281 rfl ?_
          refine g_bipush X dL_acts_283 (v := 30) (by decide) ?_
          refine g_icmp_ge X dL_acts_285 (tgt := 292) (by decide) hf (fun c53 hf => ?_) (fun c53 hf => ?_)
          · refine g_iconst X dL_acts_288 (v := 1) (by decide) ?_
            refine g_goto X dL_acts_289 (tgt := 304) (by decide) ?_
            obtain rfl := Option.some.inj hf
            refine g_sub (losub (lo' := [none, none, none, none, none, none, none, none, none, none, some (.int o1.1), none, none]) ⟨rfl, trivial⟩) ?_
            exact K52
          · refine g_iload X dL_acts_292 rfl ?_
            refine g_bipush X dL_acts_294 (v := 30) (by decide) ?_
            refine g_icmp_ne X dL_acts_296 (tgt := 303) (by decide) hf (fun c54 hf => ?_) (fun c54 hf => ?_)
            · refine g_iconst X dL_acts_299 (v := 2) (by decide) ?_
              refine g_goto X dL_acts_300 (tgt := 304) (by decide) ?_
              obtain rfl := Option.some.inj hf
              refine g_sub (losub (lo' := [none, none, none, none, none, none, none, none, none, none, some (.int o1.1), none, none]) ⟨rfl, trivial⟩) ?_
              exact K52
            · refine g_iconst X dL_acts_303 (v := 3) (by decide) ?_
              obtain rfl := Option.some.inj hf
              refine g_sub (losub (lo' := [none, none, none, none, none, none, none, none, none, none, some (.int o1.1), none, none]) ⟨rfl, trivial⟩) ?_
              exact K52
def f_L_areObjects_L62 : Nat → Int32 → Int32 → Int32 → Int32 → JT → Option (Int32 × JT)
  | 0, _, _, _, _, _ => none
  | n + 1, x9, x10, x11, x12, w => if ib 9 11 then (if x12 < (w.2.2 0 (9 : Int32).toNatClampNeg) then if ib x12 24 then (if (w.2.2 5 x12.toNatClampNeg) = x10 then some (x12) else some (x11)).bind fun o17 => f_L_areObjects_L62 n x9 x10 o17 (x12 + 1) w else none else some (x11, w)) else none
def f_L_areObjects_L15 : Nat → Int32 → Int32 → Int32 → JT → Option (Int32 × JT)
  | 0, _, _, _, _ => none
  | n + 1, x8, x9, x10, w => (if x10 < 24 then (if x8 = 0 then some (x8, w) else if ib x10 24 then (if (w.2.2 2 x10.toNatClampNeg) < 0 then (f_X6_objectOf x10 0 w.1).bind fun o7 => (if o7.1 = (-11) then some ((1 : Int32)) else some ((0 : Int32))).bind fun o10 => f_L_areObjects_L15 n o10 x9 (x10 + 1) (o7.2, w.2) else (f_L_areObjects_L62 BIG x9 x10 (-1) 0 w).bind fun o20 => (f_X6_objectOf x10 0 o20.2.1).bind fun o22 => if ib x10 24 then (if o22.1 = (o20.2.2.2 2 x10.toNatClampNeg) then (f_X6_objectOf x10 1 o22.2).bind fun o29 => (f_L_at (3 * x10) o20.2.2).bind fun o31 => (if o29.1 = o31.1 then (f_X6_objectOf x10 2 o29.2).bind fun o34 => (f_L_at ((3 * x10) + 1) o31.2).bind fun o36 => (if o34.1 = o36.1 then (f_X6_objectOf x10 3 o34.2).bind fun o39 => (f_L_at ((3 * x10) + 2) o36.2).bind fun o41 => (if o39.1 = o41.1 then (f_X6_objectOf x10 4 o39.2).bind fun o44 => if ib x10 24 then (if o44.1 = (o41.2.2 3 x10.toNatClampNeg) then (f_X6_objectOf x10 5 o44.2).bind fun o48 => (if o48.1 = ((x9 >>> (x10 &&& 31)) &&& 1) then (f_X6_objectOf x10 6 o48.2).bind fun o51 => (if o51.1 = o20.1 then (f_X6_objectOf x10 7 o51.2).bind fun o54 => if ib x10 24 then (if o54.1 = (o41.2.2 4 x10.toNatClampNeg) then (f_X6_objectOf x10 8 o54.2).bind fun o58 => (if o58.1 = (-11) then some ((1 : Int32), (o58.2, o41.2)) else some ((0 : Int32), (o58.2, o41.2))) else some ((0 : Int32), (o54.2, o41.2))) else none else some ((0 : Int32), (o51.2, o41.2))) else some ((0 : Int32), (o48.2, o41.2))) else some ((0 : Int32), (o44.2, o41.2))) else none else some ((0 : Int32), (o39.2, o41.2))) else some ((0 : Int32), (o34.2, o36.2))) else some ((0 : Int32), (o29.2, o31.2))) else some ((0 : Int32), (o22.2, o20.2.2))).bind fun o26 => f_L_areObjects_L15 n o26.1 x9 (x10 + 1) o26.2 else none) else none) else some (x8, w))
def f_L_areObjects (w : JT) : Option (Int32 × JT) := (f_L_rooted (-1) w.2).bind fun o1 => (f_L_areObjects_L15 BIG 1 o1.1 0 (w.1, o1.2)).bind fun o61 => (if o61.1 = 0 then some (0, o61.2) else (f_X6_objectOf 24 0 o61.2.1).bind fun o64 => (if o64.1 = (-11) then (f_X6_objectOf (-1) 0 o64.2).bind fun o67 => (if o67.1 = (-11) then some (1, (o67.2, o61.2.2)) else some (0, (o67.2, o61.2.2))) else some (0, (o64.2, o61.2.2))))
set_option maxRecDepth 100000 in
set_option maxHeartbeats 4000000 in
theorem gl_L_areObjects_L62 {p : Program} {l : Launch} {e : Env} {s : State} {m : MethodId} {args : Array Value} {below : List Frame} {meth : Method} {c : Code} {D : va_G} {A : Nat → Prop} {cI : ClassId × ClassId} {ad : Nat → Nat} {Q : State → Prop} {o : Int32 × JT} (X : gX p s m args meth c cL_areObjects 13 RL D cI) (n : Nat) : ∀ {x9 x10 x11 x12 : Int32} {w : JT}, f_L_areObjects_L62 n x9 x10 x11 x12 w = some o → G p l e rm_L_areObjects s m args below meth c D A 13 Q (wJ [] ad cI) 0 0 96 [some (.ref (ad 2)), some (.ref (ad 93)), some (.ref (ad 94)), some (.ref (ad 95)), some (.ref (ad 96)), some (.ref (ad 97)), some (.ref (ad 98)), none, none, some (.int x9), some (.int x10), some (.int o.1), none] [] o.2 → G p l e rm_L_areObjects s m args below meth c D A 13 Q (wJ [] ad cI) 0 0 62 [some (.ref (ad 2)), some (.ref (ad 93)), some (.ref (ad 94)), some (.ref (ad 95)), some (.ref (ad 96)), some (.ref (ad 97)), some (.ref (ad 98)), none, none, some (.int x9), some (.int x10), some (.int x11), some (.int x12)] [] w := by
  induction n with
  | zero => intro x9 x10 x11 x12 w hf; cases hf
  | succ n ih =>
    intro x9 x10 x11 x12 w hf k
    rw [f_L_areObjects_L62] at hf
    refine g_iload X dL_areObjects_62 rfl ?_
    refine g_aload_n X (i := 1) dL_areObjects_64 rfl rfl ?_
    refine g_bipush X dL_areObjects_65 (v := 9) (by decide) ?_
    obtain ⟨hb13, hf⟩ := hfg hf
    refine g_iald X (q0 := 93) (f := w.2.2 0) dL_areObjects_67 rfl hb13 ?_
    refine g_icmp_ge X dL_areObjects_68 (tgt := 96) (by decide) hf (fun c14 hf => ?_) (fun c14 hf => ?_)
    · refine g_aload X dL_areObjects_71 rfl ?_
      refine g_iload X dL_areObjects_73 rfl ?_
      obtain ⟨hb15, hf⟩ := hfg hf
      refine g_iald X (q0 := 98) (f := w.2.2 5) dL_areObjects_75 rfl hb15 ?_
      refine g_iload X dL_areObjects_76 rfl ?_
      obtain ⟨o17, h18, hf⟩ := hfb hf
      refine g_jn (M := 88) (lo2 := [some (.ref (ad 2)), some (.ref (ad 93)), some (.ref (ad 94)), some (.ref (ad 95)), some (.ref (ad 96)), some (.ref (ad 97)), some (.ref (ad 98)), none, none, some (.int x9), some (.int x10), none, some (.int x12)]) (st2 := [.int o17]) (w2 := w) ?_ (fun K19 => ?_)
      · refine g_istore X dL_areObjects_88 (by decide) rfl ?_
        refine g_iinc X (i := 12) (v := 1) dL_areObjects_90 rfl (by decide) (by decide) rfl ?_
        refine g_goto X dL_areObjects_93 (tgt := 62) (by decide) ?_
        exact ih hf k
      · have hf := h18
        refine g_icmp_ne X dL_areObjects_78 (tgt := 86) (by decide) hf (fun c16 hf => ?_) (fun c16 hf => ?_)
        · refine g_iload X dL_areObjects_81 rfl ?_
          refine g_goto X dL_areObjects_83 (tgt := 88) (by decide) ?_
          obtain rfl := Option.some.inj hf
          refine g_sub (losub (lo' := [some (.ref (ad 2)), some (.ref (ad 93)), some (.ref (ad 94)), some (.ref (ad 95)), some (.ref (ad 96)), some (.ref (ad 97)), some (.ref (ad 98)), none, none, some (.int x9), some (.int x10), none, some (.int x12)]) ⟨rfl, rfl, rfl, rfl, rfl, rfl, rfl, rfl, rfl, rfl, trivial⟩) ?_
          exact K19
        · refine g_iload X dL_areObjects_86 rfl ?_
          obtain rfl := Option.some.inj hf
          refine g_sub (losub (lo' := [some (.ref (ad 2)), some (.ref (ad 93)), some (.ref (ad 94)), some (.ref (ad 95)), some (.ref (ad 96)), some (.ref (ad 97)), some (.ref (ad 98)), none, none, some (.int x9), some (.int x10), none, some (.int x12)]) ⟨rfl, rfl, rfl, rfl, rfl, rfl, rfl, rfl, rfl, rfl, trivial⟩) ?_
          exact K19
    · obtain rfl := Option.some.inj hf
      refine g_sub (losub (lo' := [some (.ref (ad 2)), some (.ref (ad 93)), some (.ref (ad 94)), some (.ref (ad 95)), some (.ref (ad 96)), some (.ref (ad 97)), some (.ref (ad 98)), none, none, some (.int x9), some (.int x10), some (.int x11), none]) ⟨rfl, rfl, rfl, rfl, rfl, rfl, rfl, rfl, rfl, rfl, trivial⟩) ?_
      exact k
set_option maxRecDepth 100000 in
set_option maxHeartbeats 4000000 in
theorem gl_L_areObjects_L15 {p : Program} {l : Launch} {e : Env} {s : State} {m : MethodId} {args : Array Value} {below : List Frame} {meth : Method} {c : Code} {D : va_G} {A : Nat → Prop} {cI : ClassId × ClassId} {ad : Nat → Nat} {Q : State → Prop} {o : Int32 × JT} (X : gX p s m args meth c cL_areObjects 13 RL D cI) (n : Nat) : ∀ {x8 x9 x10 : Int32} {w : JT}, f_L_areObjects_L15 n x8 x9 x10 w = some o → G p l e rm_L_areObjects s m args below meth c D A 13 Q (wJ [] ad cI) 0 0 255 [some (.ref (ad 2)), none, none, none, none, none, none, none, some (.int o.1), none, none, none, none] [] o.2 → G p l e rm_L_areObjects s m args below meth c D A 13 Q (wJ [] ad cI) 0 0 15 [some (.ref (ad 2)), some (.ref (ad 93)), some (.ref (ad 94)), some (.ref (ad 95)), some (.ref (ad 96)), some (.ref (ad 97)), some (.ref (ad 98)), none, some (.int x8), some (.int x9), some (.int x10), none, none] [] w := by
  induction n with
  | zero => intro x8 x9 x10 w hf; cases hf
  | succ n ih =>
    intro x8 x9 x10 w hf k
    rw [f_L_areObjects_L15] at hf
    refine g_iload X dL_areObjects_15 rfl ?_
    refine g_bipush X dL_areObjects_17 (v := 24) (by decide) ?_
    refine g_icmp_ge X dL_areObjects_19 (tgt := 255) (by decide) hf (fun c3 hf => ?_) (fun c3 hf => ?_)
    · refine g_iload X dL_areObjects_22 rfl ?_
      refine g_if_eq X dL_areObjects_24 (tgt := 255) (by decide) hf (fun c4 hf => ?_) (fun c4 hf => ?_)
      · obtain rfl := Option.some.inj hf
        refine g_sub (losub (lo' := [some (.ref (ad 2)), none, none, none, none, none, none, none, some (.int x8), none, none, none, none]) ⟨rfl, rfl, trivial⟩) ?_
        exact k
      · refine g_aload_n X (i := 3) dL_areObjects_27 rfl rfl ?_
        refine g_iload X dL_areObjects_28 rfl ?_
        obtain ⟨hb5, hf⟩ := hfg hf
        refine g_iald X (q0 := 95) (f := w.2.2 2) dL_areObjects_30 rfl hb5 ?_
        refine g_if_ge X dL_areObjects_31 (tgt := 56) (by decide) hf (fun c6 hf => ?_) (fun c6 hf => ?_)
        · refine g_aload_n X (i := 0) dL_areObjects_34 rfl rfl ?_
          refine g_iload X dL_areObjects_35 rfl ?_
          refine g_iconst X dL_areObjects_37 (v := 0) (by decide) ?_
          obtain ⟨o7, h8, hf⟩ := hfb hf
          refine g_Vi X (q0 := 2) (As := [.int x10, .int 0]) (rest := []) (w1 := (o7.2, w.2)) (liftJ_T (m := w.2) (c_X6_objectOf (ad := ad) h8)) dL_areObjects_38 ml_L_105 yv_X6_objectOf rfl rfl rfl rfl ⟨Nat.le_of_ble_eq_true rfl, Nat.le_of_ble_eq_true rfl⟩ ⟨rfl, rfl⟩ (Nat.le_of_ble_eq_true rfl) ⟨Nat.le_of_ble_eq_true rfl, Nat.le_of_ble_eq_true rfl⟩ ?_
          refine g_bipush X dL_areObjects_41 (v := (-11)) (by decide) ?_
          obtain ⟨o10, h11, hf⟩ := hfb hf
          refine g_jn (M := 51) (lo2 := [some (.ref (ad 2)), some (.ref (ad 93)), some (.ref (ad 94)), some (.ref (ad 95)), some (.ref (ad 96)), some (.ref (ad 97)), some (.ref (ad 98)), none, none, some (.int x9), some (.int x10), none, none]) (st2 := [.int o10]) (w2 := (o7.2, w.2)) ?_ (fun K12 => ?_)
          · refine g_istore X dL_areObjects_51 (by decide) rfl ?_
            refine g_goto X dL_areObjects_53 (tgt := 249) (by decide) ?_
            refine g_iinc X (i := 10) (v := 1) dL_areObjects_249 rfl (by decide) (by decide) rfl ?_
            refine g_goto X dL_areObjects_252 (tgt := 15) (by decide) ?_
            exact ih hf k
          · have hf := h11
            refine g_icmp_ne X dL_areObjects_43 (tgt := 50) (by decide) hf (fun c9 hf => ?_) (fun c9 hf => ?_)
            · refine g_iconst X dL_areObjects_46 (v := 1) (by decide) ?_
              refine g_goto X dL_areObjects_47 (tgt := 51) (by decide) ?_
              obtain rfl := Option.some.inj hf
              refine g_sub (losub (lo' := [some (.ref (ad 2)), some (.ref (ad 93)), some (.ref (ad 94)), some (.ref (ad 95)), some (.ref (ad 96)), some (.ref (ad 97)), some (.ref (ad 98)), none, none, some (.int x9), some (.int x10), none, none]) ⟨rfl, rfl, rfl, rfl, rfl, rfl, rfl, rfl, rfl, trivial⟩) ?_
              exact K12
            · refine g_iconst X dL_areObjects_50 (v := 0) (by decide) ?_
              obtain rfl := Option.some.inj hf
              refine g_sub (losub (lo' := [some (.ref (ad 2)), some (.ref (ad 93)), some (.ref (ad 94)), some (.ref (ad 95)), some (.ref (ad 96)), some (.ref (ad 97)), some (.ref (ad 98)), none, none, some (.int x9), some (.int x10), none, none]) ⟨rfl, rfl, rfl, rfl, rfl, rfl, rfl, rfl, rfl, trivial⟩) ?_
              exact K12
        · refine g_iconst X dL_areObjects_56 (v := (-1)) (by decide) ?_
          refine g_istore X dL_areObjects_57 (by decide) rfl ?_
          refine g_iconst X dL_areObjects_59 (v := 0) (by decide) ?_
          refine g_istore X dL_areObjects_60 (by decide) rfl ?_
          refine g_sub (losub (lo' := [some (.ref (ad 2)), some (.ref (ad 93)), some (.ref (ad 94)), some (.ref (ad 95)), some (.ref (ad 96)), some (.ref (ad 97)), some (.ref (ad 98)), none, none, some (.int x9), some (.int x10), some (.int (-1)), some (.int 0)]) ⟨rfl, rfl, rfl, rfl, rfl, rfl, rfl, rfl, rfl, rfl, rfl, trivial⟩) ?_
          obtain ⟨o20, h21, hf⟩ := hfb hf
          refine gl_L_areObjects_L62 X BIG h21 ?_
          refine g_aload_n X (i := 0) dL_areObjects_96 rfl rfl ?_
          refine g_iload X dL_areObjects_97 rfl ?_
          refine g_iconst X dL_areObjects_99 (v := 0) (by decide) ?_
          obtain ⟨o22, h23, hf⟩ := hfb hf
          refine g_Vi X (q0 := 2) (As := [.int x10, .int 0]) (rest := []) (w1 := (o22.2, o20.2.2)) (liftJ_T (m := o20.2.2) (c_X6_objectOf (ad := ad) h23)) dL_areObjects_100 ml_L_105 yv_X6_objectOf rfl rfl rfl rfl ⟨Nat.le_of_ble_eq_true rfl, Nat.le_of_ble_eq_true rfl⟩ ⟨rfl, rfl⟩ (Nat.le_of_ble_eq_true rfl) ⟨Nat.le_of_ble_eq_true rfl, Nat.le_of_ble_eq_true rfl⟩ ?_
          refine g_aload_n X (i := 3) dL_areObjects_103 rfl rfl ?_
          refine g_iload X dL_areObjects_104 rfl ?_
          obtain ⟨hb24, hf⟩ := hfg hf
          refine g_iald X (q0 := 95) (f := o20.2.2.2 2) dL_areObjects_106 rfl hb24 ?_
          obtain ⟨o26, h27, hf⟩ := hfb hf
          refine g_jn (M := 247) (lo2 := [some (.ref (ad 2)), some (.ref (ad 93)), some (.ref (ad 94)), some (.ref (ad 95)), some (.ref (ad 96)), some (.ref (ad 97)), some (.ref (ad 98)), none, none, some (.int x9), some (.int x10), none, none]) (st2 := [.int o26.1]) (w2 := o26.2) ?_ (fun K28 => ?_)
          · refine g_istore X dL_areObjects_247 (by decide) rfl ?_
            refine g_iinc X (i := 10) (v := 1) dL_areObjects_249 rfl (by decide) (by decide) rfl ?_
            refine g_goto X dL_areObjects_252 (tgt := 15) (by decide) ?_
            exact ih hf k
          · have hf := h27
            refine g_icmp_ne X dL_areObjects_107 (tgt := 246) (by decide) hf (fun c25 hf => ?_) (fun c25 hf => ?_)
            · refine g_aload_n X (i := 0) dL_areObjects_110 rfl rfl ?_
              refine g_iload X dL_areObjects_111 rfl ?_
              refine g_iconst X dL_areObjects_113 (v := 1) (by decide) ?_
              obtain ⟨o29, h30, hf⟩ := hfb hf
              refine g_Vi X (q0 := 2) (As := [.int x10, .int 1]) (rest := []) (w1 := (o29.2, o20.2.2)) (liftJ_T (m := o20.2.2) (c_X6_objectOf (ad := ad) h30)) dL_areObjects_114 ml_L_105 yv_X6_objectOf rfl rfl rfl rfl ⟨Nat.le_of_ble_eq_true rfl, Nat.le_of_ble_eq_true rfl⟩ ⟨rfl, rfl⟩ (Nat.le_of_ble_eq_true rfl) ⟨Nat.le_of_ble_eq_true rfl, Nat.le_of_ble_eq_true rfl⟩ ?_
              refine g_aload_n X (i := 2) dL_areObjects_117 rfl rfl ?_
              refine g_iconst X dL_areObjects_118 (v := 3) (by decide) ?_
              refine g_iload X dL_areObjects_119 rfl ?_
              refine g_imul X dL_areObjects_121 ?_
              obtain ⟨o31, h32, hf⟩ := hfb hf
              refine g_Si X (As := [.ref (ad 94), .int (3 * x10)]) (rest := [.int o29.1]) (w1 := (o29.2, o31.2)) (liftJ_Ri (t := o29.2) (c_L_at (ad := adR ad) h32)) dL_areObjects_122 ml_L_9 yv_L_at rfl rfl ⟨Nat.le_of_ble_eq_true rfl, Nat.le_of_ble_eq_true rfl⟩ ⟨rfl, rfl⟩ (Nat.le_of_ble_eq_true rfl) ⟨Nat.le_of_ble_eq_true rfl, Nat.le_of_ble_eq_true rfl⟩ ?_
              refine g_icmp_ne X dL_areObjects_125 (tgt := 246) (by decide) hf (fun c33 hf => ?_) (fun c33 hf => ?_)
              · refine g_aload_n X (i := 0) dL_areObjects_128 rfl rfl ?_
                refine g_iload X dL_areObjects_129 rfl ?_
                refine g_iconst X dL_areObjects_131 (v := 2) (by decide) ?_
                obtain ⟨o34, h35, hf⟩ := hfb hf
                refine g_Vi X (q0 := 2) (As := [.int x10, .int 2]) (rest := []) (w1 := (o34.2, o31.2)) (liftJ_T (m := o31.2) (c_X6_objectOf (ad := ad) h35)) dL_areObjects_132 ml_L_105 yv_X6_objectOf rfl rfl rfl rfl ⟨Nat.le_of_ble_eq_true rfl, Nat.le_of_ble_eq_true rfl⟩ ⟨rfl, rfl⟩ (Nat.le_of_ble_eq_true rfl) ⟨Nat.le_of_ble_eq_true rfl, Nat.le_of_ble_eq_true rfl⟩ ?_
                refine g_aload_n X (i := 2) dL_areObjects_135 rfl rfl ?_
                refine g_iconst X dL_areObjects_136 (v := 3) (by decide) ?_
                refine g_iload X dL_areObjects_137 rfl ?_
                refine g_imul X dL_areObjects_139 ?_
                refine g_iconst X dL_areObjects_140 (v := 1) (by decide) ?_
                refine g_iadd X dL_areObjects_141 ?_
                obtain ⟨o36, h37, hf⟩ := hfb hf
                refine g_Si X (As := [.ref (ad 94), .int ((3 * x10) + 1)]) (rest := [.int o34.1]) (w1 := (o34.2, o36.2)) (liftJ_Ri (t := o34.2) (c_L_at (ad := adR ad) h37)) dL_areObjects_142 ml_L_9 yv_L_at rfl rfl ⟨Nat.le_of_ble_eq_true rfl, Nat.le_of_ble_eq_true rfl⟩ ⟨rfl, rfl⟩ (Nat.le_of_ble_eq_true rfl) ⟨Nat.le_of_ble_eq_true rfl, Nat.le_of_ble_eq_true rfl⟩ ?_
                refine g_icmp_ne X dL_areObjects_145 (tgt := 246) (by decide) hf (fun c38 hf => ?_) (fun c38 hf => ?_)
                · refine g_aload_n X (i := 0) dL_areObjects_148 rfl rfl ?_
                  refine g_iload X dL_areObjects_149 rfl ?_
                  refine g_iconst X dL_areObjects_151 (v := 3) (by decide) ?_
                  obtain ⟨o39, h40, hf⟩ := hfb hf
                  refine g_Vi X (q0 := 2) (As := [.int x10, .int 3]) (rest := []) (w1 := (o39.2, o36.2)) (liftJ_T (m := o36.2) (c_X6_objectOf (ad := ad) h40)) dL_areObjects_152 ml_L_105 yv_X6_objectOf rfl rfl rfl rfl ⟨Nat.le_of_ble_eq_true rfl, Nat.le_of_ble_eq_true rfl⟩ ⟨rfl, rfl⟩ (Nat.le_of_ble_eq_true rfl) ⟨Nat.le_of_ble_eq_true rfl, Nat.le_of_ble_eq_true rfl⟩ ?_
                  refine g_aload_n X (i := 2) dL_areObjects_155 rfl rfl ?_
                  refine g_iconst X dL_areObjects_156 (v := 3) (by decide) ?_
                  refine g_iload X dL_areObjects_157 rfl ?_
                  refine g_imul X dL_areObjects_159 ?_
                  refine g_iconst X dL_areObjects_160 (v := 2) (by decide) ?_
                  refine g_iadd X dL_areObjects_161 ?_
                  obtain ⟨o41, h42, hf⟩ := hfb hf
                  refine g_Si X (As := [.ref (ad 94), .int ((3 * x10) + 2)]) (rest := [.int o39.1]) (w1 := (o39.2, o41.2)) (liftJ_Ri (t := o39.2) (c_L_at (ad := adR ad) h42)) dL_areObjects_162 ml_L_9 yv_L_at rfl rfl ⟨Nat.le_of_ble_eq_true rfl, Nat.le_of_ble_eq_true rfl⟩ ⟨rfl, rfl⟩ (Nat.le_of_ble_eq_true rfl) ⟨Nat.le_of_ble_eq_true rfl, Nat.le_of_ble_eq_true rfl⟩ ?_
                  refine g_icmp_ne X dL_areObjects_165 (tgt := 246) (by decide) hf (fun c43 hf => ?_) (fun c43 hf => ?_)
                  · refine g_aload_n X (i := 0) dL_areObjects_168 rfl rfl ?_
                    refine g_iload X dL_areObjects_169 rfl ?_
                    refine g_iconst X dL_areObjects_171 (v := 4) (by decide) ?_
                    obtain ⟨o44, h45, hf⟩ := hfb hf
                    refine g_Vi X (q0 := 2) (As := [.int x10, .int 4]) (rest := []) (w1 := (o44.2, o41.2)) (liftJ_T (m := o41.2) (c_X6_objectOf (ad := ad) h45)) dL_areObjects_172 ml_L_105 yv_X6_objectOf rfl rfl rfl rfl ⟨Nat.le_of_ble_eq_true rfl, Nat.le_of_ble_eq_true rfl⟩ ⟨rfl, rfl⟩ (Nat.le_of_ble_eq_true rfl) ⟨Nat.le_of_ble_eq_true rfl, Nat.le_of_ble_eq_true rfl⟩ ?_
                    refine g_aload X dL_areObjects_175 rfl ?_
                    refine g_iload X dL_areObjects_177 rfl ?_
                    obtain ⟨hb46, hf⟩ := hfg hf
                    refine g_iald X (q0 := 96) (f := o41.2.2 3) dL_areObjects_179 rfl hb46 ?_
                    refine g_icmp_ne X dL_areObjects_180 (tgt := 246) (by decide) hf (fun c47 hf => ?_) (fun c47 hf => ?_)
                    · refine g_aload_n X (i := 0) dL_areObjects_183 rfl rfl ?_
                      refine g_iload X dL_areObjects_184 rfl ?_
                      refine g_iconst X dL_areObjects_186 (v := 5) (by decide) ?_
                      obtain ⟨o48, h49, hf⟩ := hfb hf
                      refine g_Vi X (q0 := 2) (As := [.int x10, .int 5]) (rest := []) (w1 := (o48.2, o41.2)) (liftJ_T (m := o41.2) (c_X6_objectOf (ad := ad) h49)) dL_areObjects_187 ml_L_105 yv_X6_objectOf rfl rfl rfl rfl ⟨Nat.le_of_ble_eq_true rfl, Nat.le_of_ble_eq_true rfl⟩ ⟨rfl, rfl⟩ (Nat.le_of_ble_eq_true rfl) ⟨Nat.le_of_ble_eq_true rfl, Nat.le_of_ble_eq_true rfl⟩ ?_
                      refine g_iload X dL_areObjects_190 rfl ?_
                      refine g_iload X dL_areObjects_192 rfl ?_
                      refine g_ishr X dL_areObjects_194 ?_
                      refine g_iconst X dL_areObjects_195 (v := 1) (by decide) ?_
                      refine g_iand X dL_areObjects_196 ?_
                      refine g_icmp_ne X dL_areObjects_197 (tgt := 246) (by decide) hf (fun c50 hf => ?_) (fun c50 hf => ?_)
                      · refine g_aload_n X (i := 0) dL_areObjects_200 rfl rfl ?_
                        refine g_iload X dL_areObjects_201 rfl ?_
                        refine g_bipush X dL_areObjects_203 (v := 6) (by decide) ?_
                        obtain ⟨o51, h52, hf⟩ := hfb hf
                        refine g_Vi X (q0 := 2) (As := [.int x10, .int 6]) (rest := []) (w1 := (o51.2, o41.2)) (liftJ_T (m := o41.2) (c_X6_objectOf (ad := ad) h52)) dL_areObjects_205 ml_L_105 yv_X6_objectOf rfl rfl rfl rfl ⟨Nat.le_of_ble_eq_true rfl, Nat.le_of_ble_eq_true rfl⟩ ⟨rfl, rfl⟩ (Nat.le_of_ble_eq_true rfl) ⟨Nat.le_of_ble_eq_true rfl, Nat.le_of_ble_eq_true rfl⟩ ?_
                        refine g_iload X dL_areObjects_208 rfl ?_
                        refine g_icmp_ne X dL_areObjects_210 (tgt := 246) (by decide) hf (fun c53 hf => ?_) (fun c53 hf => ?_)
                        · refine g_aload_n X (i := 0) dL_areObjects_213 rfl rfl ?_
                          refine g_iload X dL_areObjects_214 rfl ?_
                          refine g_bipush X dL_areObjects_216 (v := 7) (by decide) ?_
                          obtain ⟨o54, h55, hf⟩ := hfb hf
                          refine g_Vi X (q0 := 2) (As := [.int x10, .int 7]) (rest := []) (w1 := (o54.2, o41.2)) (liftJ_T (m := o41.2) (c_X6_objectOf (ad := ad) h55)) dL_areObjects_218 ml_L_105 yv_X6_objectOf rfl rfl rfl rfl ⟨Nat.le_of_ble_eq_true rfl, Nat.le_of_ble_eq_true rfl⟩ ⟨rfl, rfl⟩ (Nat.le_of_ble_eq_true rfl) ⟨Nat.le_of_ble_eq_true rfl, Nat.le_of_ble_eq_true rfl⟩ ?_
                          refine g_aload X dL_areObjects_221 rfl ?_
                          refine g_iload X dL_areObjects_223 rfl ?_
                          obtain ⟨hb56, hf⟩ := hfg hf
                          refine g_iald X (q0 := 97) (f := o41.2.2 4) dL_areObjects_225 rfl hb56 ?_
                          refine g_icmp_ne X dL_areObjects_226 (tgt := 246) (by decide) hf (fun c57 hf => ?_) (fun c57 hf => ?_)
                          · refine g_aload_n X (i := 0) dL_areObjects_229 rfl rfl ?_
                            refine g_iload X dL_areObjects_230 rfl ?_
                            refine g_bipush X dL_areObjects_232 (v := 8) (by decide) ?_
                            obtain ⟨o58, h59, hf⟩ := hfb hf
                            refine g_Vi X (q0 := 2) (As := [.int x10, .int 8]) (rest := []) (w1 := (o58.2, o41.2)) (liftJ_T (m := o41.2) (c_X6_objectOf (ad := ad) h59)) dL_areObjects_234 ml_L_105 yv_X6_objectOf rfl rfl rfl rfl ⟨Nat.le_of_ble_eq_true rfl, Nat.le_of_ble_eq_true rfl⟩ ⟨rfl, rfl⟩ (Nat.le_of_ble_eq_true rfl) ⟨Nat.le_of_ble_eq_true rfl, Nat.le_of_ble_eq_true rfl⟩ ?_
                            refine g_bipush X dL_areObjects_237 (v := (-11)) (by decide) ?_
                            refine g_icmp_ne X dL_areObjects_239 (tgt := 246) (by decide) hf (fun c60 hf => ?_) (fun c60 hf => ?_)
                            · refine g_iconst X dL_areObjects_242 (v := 1) (by decide) ?_
                              refine g_goto X dL_areObjects_243 (tgt := 247) (by decide) ?_
                              obtain rfl := Option.some.inj hf
                              refine g_sub (losub (lo' := [some (.ref (ad 2)), some (.ref (ad 93)), some (.ref (ad 94)), some (.ref (ad 95)), some (.ref (ad 96)), some (.ref (ad 97)), some (.ref (ad 98)), none, none, some (.int x9), some (.int x10), none, none]) ⟨rfl, rfl, rfl, rfl, rfl, rfl, rfl, rfl, rfl, trivial⟩) ?_
                              exact K28
                            · refine g_iconst X dL_areObjects_246 (v := 0) (by decide) ?_
                              obtain rfl := Option.some.inj hf
                              refine g_sub (losub (lo' := [some (.ref (ad 2)), some (.ref (ad 93)), some (.ref (ad 94)), some (.ref (ad 95)), some (.ref (ad 96)), some (.ref (ad 97)), some (.ref (ad 98)), none, none, some (.int x9), some (.int x10), none, none]) ⟨rfl, rfl, rfl, rfl, rfl, rfl, rfl, rfl, rfl, trivial⟩) ?_
                              exact K28
                          · refine g_iconst X dL_areObjects_246 (v := 0) (by decide) ?_
                            obtain rfl := Option.some.inj hf
                            refine g_sub (losub (lo' := [some (.ref (ad 2)), some (.ref (ad 93)), some (.ref (ad 94)), some (.ref (ad 95)), some (.ref (ad 96)), some (.ref (ad 97)), some (.ref (ad 98)), none, none, some (.int x9), some (.int x10), none, none]) ⟨rfl, rfl, rfl, rfl, rfl, rfl, rfl, rfl, rfl, trivial⟩) ?_
                            exact K28
                        · refine g_iconst X dL_areObjects_246 (v := 0) (by decide) ?_
                          obtain rfl := Option.some.inj hf
                          refine g_sub (losub (lo' := [some (.ref (ad 2)), some (.ref (ad 93)), some (.ref (ad 94)), some (.ref (ad 95)), some (.ref (ad 96)), some (.ref (ad 97)), some (.ref (ad 98)), none, none, some (.int x9), some (.int x10), none, none]) ⟨rfl, rfl, rfl, rfl, rfl, rfl, rfl, rfl, rfl, trivial⟩) ?_
                          exact K28
                      · refine g_iconst X dL_areObjects_246 (v := 0) (by decide) ?_
                        obtain rfl := Option.some.inj hf
                        refine g_sub (losub (lo' := [some (.ref (ad 2)), some (.ref (ad 93)), some (.ref (ad 94)), some (.ref (ad 95)), some (.ref (ad 96)), some (.ref (ad 97)), some (.ref (ad 98)), none, none, some (.int x9), some (.int x10), none, none]) ⟨rfl, rfl, rfl, rfl, rfl, rfl, rfl, rfl, rfl, trivial⟩) ?_
                        exact K28
                    · refine g_iconst X dL_areObjects_246 (v := 0) (by decide) ?_
                      obtain rfl := Option.some.inj hf
                      refine g_sub (losub (lo' := [some (.ref (ad 2)), some (.ref (ad 93)), some (.ref (ad 94)), some (.ref (ad 95)), some (.ref (ad 96)), some (.ref (ad 97)), some (.ref (ad 98)), none, none, some (.int x9), some (.int x10), none, none]) ⟨rfl, rfl, rfl, rfl, rfl, rfl, rfl, rfl, rfl, trivial⟩) ?_
                      exact K28
                  · refine g_iconst X dL_areObjects_246 (v := 0) (by decide) ?_
                    obtain rfl := Option.some.inj hf
                    refine g_sub (losub (lo' := [some (.ref (ad 2)), some (.ref (ad 93)), some (.ref (ad 94)), some (.ref (ad 95)), some (.ref (ad 96)), some (.ref (ad 97)), some (.ref (ad 98)), none, none, some (.int x9), some (.int x10), none, none]) ⟨rfl, rfl, rfl, rfl, rfl, rfl, rfl, rfl, rfl, trivial⟩) ?_
                    exact K28
                · refine g_iconst X dL_areObjects_246 (v := 0) (by decide) ?_
                  obtain rfl := Option.some.inj hf
                  refine g_sub (losub (lo' := [some (.ref (ad 2)), some (.ref (ad 93)), some (.ref (ad 94)), some (.ref (ad 95)), some (.ref (ad 96)), some (.ref (ad 97)), some (.ref (ad 98)), none, none, some (.int x9), some (.int x10), none, none]) ⟨rfl, rfl, rfl, rfl, rfl, rfl, rfl, rfl, rfl, trivial⟩) ?_
                  exact K28
              · refine g_iconst X dL_areObjects_246 (v := 0) (by decide) ?_
                obtain rfl := Option.some.inj hf
                refine g_sub (losub (lo' := [some (.ref (ad 2)), some (.ref (ad 93)), some (.ref (ad 94)), some (.ref (ad 95)), some (.ref (ad 96)), some (.ref (ad 97)), some (.ref (ad 98)), none, none, some (.int x9), some (.int x10), none, none]) ⟨rfl, rfl, rfl, rfl, rfl, rfl, rfl, rfl, rfl, trivial⟩) ?_
                exact K28
            · refine g_iconst X dL_areObjects_246 (v := 0) (by decide) ?_
              obtain rfl := Option.some.inj hf
              refine g_sub (losub (lo' := [some (.ref (ad 2)), some (.ref (ad 93)), some (.ref (ad 94)), some (.ref (ad 95)), some (.ref (ad 96)), some (.ref (ad 97)), some (.ref (ad 98)), none, none, some (.int x9), some (.int x10), none, none]) ⟨rfl, rfl, rfl, rfl, rfl, rfl, rfl, rfl, rfl, trivial⟩) ?_
              exact K28
    · obtain rfl := Option.some.inj hf
      refine g_sub (losub (lo' := [some (.ref (ad 2)), none, none, none, none, none, none, none, some (.int x8), none, none, none, none]) ⟨rfl, rfl, trivial⟩) ?_
      exact k
set_option maxRecDepth 100000 in
set_option maxHeartbeats 4000000 in
theorem c_L_areObjects {l : Launch} {D : va_G} {cI : ClassId × ClassId} {A : Nat → Prop} {ad : Nat → Nat} {w : JT} {o : Int32 × JT} (hf : f_L_areObjects w = some o) : CTi l D cI A yL_areObjects cL_areObjects 13 (some .boolean) rm_L_areObjects [.ref (ad 2), .ref (ad 93), .ref (ad 94), .ref (ad 95), .ref (ad 96), .ref (ad 97), .ref (ad 98), .ref (ad 100)] ((wJ [] ad cI) w) o.1 ((wJ [] ad cI) o.2)   := by
  refine CTi.of (by decide +kernel) rfl (Nat.le_of_ble_eq_true rfl) ?_
  intro p e s m args below meth c X hr
  have X : gX p s m args meth c cL_areObjects 13 RL D cI := X
  show G _ _ _ _ _ _ _ _ _ _ _ _ _ _ _ _ _ 0 [some (.ref (ad 2)), some (.ref (ad 93)), some (.ref (ad 94)), some (.ref (ad 95)), some (.ref (ad 96)), some (.ref (ad 97)), some (.ref (ad 98)), some (.ref (ad 100)), none, none, none, none, none] [] w
  unfold f_L_areObjects at hf
  refine g_iconst X dL_areObjects_0 (v := 1) (by decide) ?_
  refine g_istore X dL_areObjects_1 (by decide) rfl ?_
  refine g_aload_n X (i := 2) dL_areObjects_3 rfl rfl ?_
  refine g_aload X dL_areObjects_4 rfl ?_
  refine g_iconst X dL_areObjects_6 (v := (-1)) (by decide) ?_
  obtain ⟨o1, h2, hf⟩ := hfb hf
  refine g_Si X (As := [.ref (ad 94), .ref (ad 100), .int (-1)]) (rest := []) (w1 := (w.1, o1.2)) (liftJ_Ri (t := w.1) (c_L_rooted (ad := adR ad) h2)) dL_areObjects_7 ml_L_19 yv_L_rooted rfl rfl ⟨Nat.le_of_ble_eq_true rfl, Nat.le_of_ble_eq_true rfl⟩ ⟨rfl, rfl⟩ (Nat.le_of_ble_eq_true rfl) ⟨Nat.le_of_ble_eq_true rfl, Nat.le_of_ble_eq_true rfl⟩ ?_
  refine g_istore X dL_areObjects_10 (by decide) rfl ?_
  refine g_iconst X dL_areObjects_12 (v := 0) (by decide) ?_
  refine g_istore X dL_areObjects_13 (by decide) rfl ?_
  refine g_sub (losub (lo' := [some (.ref (ad 2)), some (.ref (ad 93)), some (.ref (ad 94)), some (.ref (ad 95)), some (.ref (ad 96)), some (.ref (ad 97)), some (.ref (ad 98)), none, some (.int 1), some (.int o1.1), some (.int 0), none, none]) ⟨rfl, rfl, rfl, rfl, rfl, rfl, rfl, rfl, rfl, rfl, trivial⟩) ?_
  obtain ⟨o61, h62, hf⟩ := hfb hf
  refine gl_L_areObjects_L15 X BIG h62 ?_
  refine g_iload X dL_areObjects_255 rfl ?_
  refine g_if_eq X dL_areObjects_257 (tgt := 287) (by decide) hf (fun c63 hf => ?_) (fun c63 hf => ?_)
  · refine g_iconst X dL_areObjects_287 (v := 0) (by decide) ?_
    exact g_zret X hr dL_areObjects_288 rfl hf
  · refine g_aload_n X (i := 0) dL_areObjects_260 rfl rfl ?_
    refine g_bipush X dL_areObjects_261 (v := 24) (by decide) ?_
    refine g_iconst X dL_areObjects_263 (v := 0) (by decide) ?_
    obtain ⟨o64, h65, hf⟩ := hfb hf
    refine g_Vi X (q0 := 2) (As := [.int 24, .int 0]) (rest := []) (w1 := (o64.2, o61.2.2)) (liftJ_T (m := o61.2.2) (c_X6_objectOf (ad := ad) h65)) dL_areObjects_264 ml_L_105 yv_X6_objectOf rfl rfl rfl rfl ⟨Nat.le_of_ble_eq_true rfl, Nat.le_of_ble_eq_true rfl⟩ ⟨rfl, rfl⟩ (Nat.le_of_ble_eq_true rfl) ⟨Nat.le_of_ble_eq_true rfl, Nat.le_of_ble_eq_true rfl⟩ ?_
    refine g_bipush X dL_areObjects_267 (v := (-11)) (by decide) ?_
    refine g_icmp_ne X dL_areObjects_269 (tgt := 287) (by decide) hf (fun c66 hf => ?_) (fun c66 hf => ?_)
    · refine g_aload_n X (i := 0) dL_areObjects_272 rfl rfl ?_
      refine g_iconst X dL_areObjects_273 (v := (-1)) (by decide) ?_
      refine g_iconst X dL_areObjects_274 (v := 0) (by decide) ?_
      obtain ⟨o67, h68, hf⟩ := hfb hf
      refine g_Vi X (q0 := 2) (As := [.int (-1), .int 0]) (rest := []) (w1 := (o67.2, o61.2.2)) (liftJ_T (m := o61.2.2) (c_X6_objectOf (ad := ad) h68)) dL_areObjects_275 ml_L_105 yv_X6_objectOf rfl rfl rfl rfl ⟨Nat.le_of_ble_eq_true rfl, Nat.le_of_ble_eq_true rfl⟩ ⟨rfl, rfl⟩ (Nat.le_of_ble_eq_true rfl) ⟨Nat.le_of_ble_eq_true rfl, Nat.le_of_ble_eq_true rfl⟩ ?_
      refine g_bipush X dL_areObjects_278 (v := (-11)) (by decide) ?_
      refine g_icmp_ne X dL_areObjects_280 (tgt := 287) (by decide) hf (fun c69 hf => ?_) (fun c69 hf => ?_)
      · refine g_iconst X dL_areObjects_283 (v := 1) (by decide) ?_
        refine g_goto X dL_areObjects_284 (tgt := 288) (by decide) ?_
        exact g_zret X hr dL_areObjects_288 rfl hf
      · refine g_iconst X dL_areObjects_287 (v := 0) (by decide) ?_
        exact g_zret X hr dL_areObjects_288 rfl hf
    · refine g_iconst X dL_areObjects_287 (v := 0) (by decide) ?_
      exact g_zret X hr dL_areObjects_288 rfl hf
def f_L_isSo_L29 : Nat → Int32 → Int32 → Int32 → KT → Option (Int32 × KT)
  | 0, _, _, _, _ => none
  | n + 1, x9, x11, x12, w => (if x12 < 24 then if ib x12 24 then (if (w.2.1.2 2 x12.toNatClampNeg) < 0 then some ((0 : Int32)) else some ((1 : Int32))).bind fun o6 => if ib 0 7 then if ib x12 24 then (if (w.2.1.2 2 x12.toNatClampNeg) < 0 then some ((0 : Int32)) else some (1 <<< (x12 &&& 31))).bind fun o12 => if ib 0 7 then if ib 3 7 then if ib x12 24 then (if (w.2.1.2 2 x12.toNatClampNeg) = 0 then some (1 <<< (x12 &&& 31)) else some ((0 : Int32))).bind fun o19 => if ib 3 7 then if ib 4 7 then if ib x12 24 then (if (w.2.1.2 2 x12.toNatClampNeg) = 1 then some (1 <<< (x12 &&& 31)) else some ((0 : Int32))).bind fun o26 => if ib 4 7 then if ib 5 7 then if ib x12 24 then (if (w.2.1.2 2 x12.toNatClampNeg) = 2 then some (1 <<< (x12 &&& 31)) else some ((0 : Int32))).bind fun o33 => if ib 5 7 then if ib 6 7 then if ib x12 24 then (if (w.2.1.2 2 x12.toNatClampNeg) < 0 then some ((0 : Int32)) else if ib x12 24 then (if (w.2.1.2 3 x12.toNatClampNeg) = 1 then some (1 <<< (x12 &&& 31)) else some ((0 : Int32))) else none).bind fun o40 => if ib 6 7 then f_L_isSo_L29 n x9 (x11 + o6) (x12 + 1) (w.1, (w.2.1, upd (upd (upd (upd (upd w.2.2 (0 : Int32).toNatClampNeg ((w.2.2 (0 : Int32).toNatClampNeg) ||| o12)) (3 : Int32).toNatClampNeg ((upd w.2.2 (0 : Int32).toNatClampNeg ((w.2.2 (0 : Int32).toNatClampNeg) ||| o12) (3 : Int32).toNatClampNeg) ||| o19)) (4 : Int32).toNatClampNeg ((upd (upd w.2.2 (0 : Int32).toNatClampNeg ((w.2.2 (0 : Int32).toNatClampNeg) ||| o12)) (3 : Int32).toNatClampNeg ((upd w.2.2 (0 : Int32).toNatClampNeg ((w.2.2 (0 : Int32).toNatClampNeg) ||| o12) (3 : Int32).toNatClampNeg) ||| o19) (4 : Int32).toNatClampNeg) ||| o26)) (5 : Int32).toNatClampNeg ((upd (upd (upd w.2.2 (0 : Int32).toNatClampNeg ((w.2.2 (0 : Int32).toNatClampNeg) ||| o12)) (3 : Int32).toNatClampNeg ((upd w.2.2 (0 : Int32).toNatClampNeg ((w.2.2 (0 : Int32).toNatClampNeg) ||| o12) (3 : Int32).toNatClampNeg) ||| o19)) (4 : Int32).toNatClampNeg ((upd (upd w.2.2 (0 : Int32).toNatClampNeg ((w.2.2 (0 : Int32).toNatClampNeg) ||| o12)) (3 : Int32).toNatClampNeg ((upd w.2.2 (0 : Int32).toNatClampNeg ((w.2.2 (0 : Int32).toNatClampNeg) ||| o12) (3 : Int32).toNatClampNeg) ||| o19) (4 : Int32).toNatClampNeg) ||| o26) (5 : Int32).toNatClampNeg) ||| o33)) (6 : Int32).toNatClampNeg ((upd (upd (upd (upd w.2.2 (0 : Int32).toNatClampNeg ((w.2.2 (0 : Int32).toNatClampNeg) ||| o12)) (3 : Int32).toNatClampNeg ((upd w.2.2 (0 : Int32).toNatClampNeg ((w.2.2 (0 : Int32).toNatClampNeg) ||| o12) (3 : Int32).toNatClampNeg) ||| o19)) (4 : Int32).toNatClampNeg ((upd (upd w.2.2 (0 : Int32).toNatClampNeg ((w.2.2 (0 : Int32).toNatClampNeg) ||| o12)) (3 : Int32).toNatClampNeg ((upd w.2.2 (0 : Int32).toNatClampNeg ((w.2.2 (0 : Int32).toNatClampNeg) ||| o12) (3 : Int32).toNatClampNeg) ||| o19) (4 : Int32).toNatClampNeg) ||| o26)) (5 : Int32).toNatClampNeg ((upd (upd (upd w.2.2 (0 : Int32).toNatClampNeg ((w.2.2 (0 : Int32).toNatClampNeg) ||| o12)) (3 : Int32).toNatClampNeg ((upd w.2.2 (0 : Int32).toNatClampNeg ((w.2.2 (0 : Int32).toNatClampNeg) ||| o12) (3 : Int32).toNatClampNeg) ||| o19)) (4 : Int32).toNatClampNeg ((upd (upd w.2.2 (0 : Int32).toNatClampNeg ((w.2.2 (0 : Int32).toNatClampNeg) ||| o12)) (3 : Int32).toNatClampNeg ((upd w.2.2 (0 : Int32).toNatClampNeg ((w.2.2 (0 : Int32).toNatClampNeg) ||| o12) (3 : Int32).toNatClampNeg) ||| o19) (4 : Int32).toNatClampNeg) ||| o26) (5 : Int32).toNatClampNeg) ||| o33) (6 : Int32).toNatClampNeg) ||| o40))) else none else none else none else none else none else none else none else none else none else none else none else none else none else none else none else none else some (x11, w))
def f_L_isSo_L204 : Nat → Int32 → Int32 → Int32 → KT → Option (Int32 × KT)
  | 0, _, _, _, _ => none
  | n + 1, x9, x11, x12, w => (if x12 < 7 then (if x9 = 0 then some (x9, w) else (f_X6_objects x12 w.1).bind fun o56 => if ib x12 7 then (if o56.1 = (w.2.2 x12.toNatClampNeg) then some ((1 : Int32)) else some ((0 : Int32))).bind fun o60 => f_L_isSo_L204 n o60 x11 (x12 + 1) (o56.2, (w.2.1, w.2.2)) else none) else some (x9, w))
def f_L_isSo_L246 : Nat → Int32 → Int32 → Int32 → KT → Option (Int32 × KT)
  | 0, _, _, _, _ => none
  | n + 1, x9, x11, x12, w => (if x12 < 8 then (if x9 = 0 then some (x9, w) else (f_X6_refers (x12 / 4) (x12 - x12 / 4 * 4) w.1).bind fun o67 => if ib x12 8 then (if (w.2.1.2 7 x12.toNatClampNeg) < 0 then some (((-14) : Int32)) else if ib x12 8 then some (w.2.1.2 7 x12.toNatClampNeg) else none).bind fun o71 => (if o67.1 = o71 then some ((1 : Int32)) else some ((0 : Int32))).bind fun o76 => f_L_isSo_L246 n o76 x11 (x12 + 1) (o67.2, (w.2.1, w.2.2)) else none) else some (x9, w))
def f_L_isSo_L307 : Nat → Int32 → Int32 → Int32 → KT → Option (Int32 × KT)
  | 0, _, _, _, _ => none
  | n + 1, x9, x11, x12, w => if ib 10 11 then (if x12 < (w.2.1.2 0 (10 : Int32).toNatClampNeg) then (if x9 = 0 then some (x9, w) else (f_X6_grey x12 w.1).bind fun o84 => if ib x12 24 then (if o84.1 = (w.2.1.2 6 x12.toNatClampNeg) then some ((1 : Int32)) else some ((0 : Int32))).bind fun o88 => f_L_isSo_L307 n o88 x11 (x12 + 1) (o84.2, (w.2.1, w.2.2)) else none) else some (x9, w)) else none
def f_L_isSo (w : JT) : Option (Int32 × JT) := (f_L_areObjects w).bind fun o1 => (f_L_isSo_L29 BIG o1.1 0 0 (o1.2.1, (o1.2.2, (fun _ => (0 : Int32))))).bind fun o46 => (f_L_rooted (-1) o46.2.2.1).bind fun o48 => if ib 1 7 then (f_L_reached o48.2).bind fun o51 => if ib 2 7 then (f_L_isSo_L204 BIG o1.1 o46.1 0 (o46.2.1, (o51.2, upd (upd o46.2.2.2 (1 : Int32).toNatClampNeg o48.1) (2 : Int32).toNatClampNeg o51.1))).bind fun o63 => (f_L_isSo_L246 BIG o63.1 o46.1 0 o63.2).bind fun o79 => (f_L_isSo_L307 BIG o79.1 o46.1 0 o79.2).bind fun o91 => (if o91.1 = 0 then some ((0 : Int32), o91.2) else if ib 2 7 then if ib 0 7 then (if ((o91.2.2.2 (2 : Int32).toNatClampNeg) &&& ((o91.2.2.2 (0 : Int32).toNatClampNeg) ^^^ (-1))) = 0 then if ib 0 11 then (if (0 : Int32) < (o91.2.2.1.2 0 (0 : Int32).toNatClampNeg) then if ib 10 11 then (f_X6_grey (o91.2.2.1.2 0 (10 : Int32).toNatClampNeg) o91.2.1).bind fun o103 => (if o103.1 = (-14) then (f_X6_grey (-1) o103.2).bind fun o106 => (if o106.1 = (-11) then (f_X6_objects 7 o106.2).bind fun o109 => if ib 7 11 then (if o109.1 = (o91.2.2.1.2 0 (7 : Int32).toNatClampNeg) then (f_X6_objects 8 o109.2).bind fun o113 => (if o113.1 = (-11) then some ((1 : Int32), (o113.2, (o91.2.2.1, o91.2.2.2))) else some ((0 : Int32), (o113.2, (o91.2.2.1, o91.2.2.2)))) else some ((0 : Int32), (o109.2, (o91.2.2.1, o91.2.2.2)))) else none else some ((0 : Int32), (o106.2, (o91.2.2.1, o91.2.2.2)))) else some ((0 : Int32), (o103.2, (o91.2.2.1, o91.2.2.2)))) else none else if ib 4 7 then (if (o91.2.2.2 (4 : Int32).toNatClampNeg) = 0 then if ib 5 7 then (if (o91.2.2.2 (5 : Int32).toNatClampNeg) = 0 then if ib 10 11 then (f_X6_grey (o91.2.2.1.2 0 (10 : Int32).toNatClampNeg) o91.2.1).bind fun o121 => (if o121.1 = (-14) then (f_X6_grey (-1) o121.2).bind fun o124 => (if o124.1 = (-11) then (f_X6_objects 7 o124.2).bind fun o127 => if ib 7 11 then (if o127.1 = (o91.2.2.1.2 0 (7 : Int32).toNatClampNeg) then (f_X6_objects 8 o127.2).bind fun o131 => (if o131.1 = (-11) then some ((1 : Int32), (o131.2, (o91.2.2.1, o91.2.2.2))) else some ((0 : Int32), (o131.2, (o91.2.2.1, o91.2.2.2)))) else some ((0 : Int32), (o127.2, (o91.2.2.1, o91.2.2.2)))) else none else some ((0 : Int32), (o124.2, (o91.2.2.1, o91.2.2.2)))) else some ((0 : Int32), (o121.2, (o91.2.2.1, o91.2.2.2)))) else none else some ((0 : Int32), o91.2)) else none else some ((0 : Int32), o91.2)) else none) else none else some ((0 : Int32), o91.2)) else none else none).bind fun o94 => (if o94.1 = 0 then some (0, (o94.2.1, o94.2.2.1)) else (f_X6_count 0 o94.2.1).bind fun o135 => (if o135.1 = o46.1 then (f_X6_count 1 o135.2).bind fun o138 => if ib 0 11 then (if o138.1 = (o94.2.2.1.2 0 (0 : Int32).toNatClampNeg) then (f_X6_count 2 o138.2).bind fun o142 => if ib 2 11 then (if o142.1 = (o94.2.2.1.2 0 (2 : Int32).toNatClampNeg) then (f_X6_count 3 o142.2).bind fun o146 => if ib 3 11 then (if o146.1 = (o94.2.2.1.2 0 (3 : Int32).toNatClampNeg) then (f_X6_count 4 o146.2).bind fun o150 => if ib 4 11 then (if o150.1 = (o94.2.2.1.2 0 (4 : Int32).toNatClampNeg) then (f_X6_count 5 o150.2).bind fun o154 => if ib 5 11 then (if o154.1 = (o94.2.2.1.2 0 (5 : Int32).toNatClampNeg) then (f_X6_count 6 o154.2).bind fun o158 => if ib 9 11 then (if o158.1 = (o94.2.2.1.2 0 (9 : Int32).toNatClampNeg) then (f_X6_count 7 o158.2).bind fun o162 => if ib 0 11 then (if (o94.2.2.1.2 0 (0 : Int32).toNatClampNeg) = 3 then if ib 1 11 then some (o94.2.2.1.2 0 (1 : Int32).toNatClampNeg) else none else some (((-14) : Int32))).bind fun o166 => (if o162.1 = o166 then (f_X6_count 8 o162.2).bind fun o171 => if ib 2 11 then (if (o94.2.2.1.2 0 (2 : Int32).toNatClampNeg) = 0 then some (((-14) : Int32)) else if ib 6 11 then some (o94.2.2.1.2 0 (6 : Int32).toNatClampNeg) else none).bind fun o175 => (if o171.1 = o175 then (f_X6_count 9 o171.2).bind fun o180 => if ib 8 11 then (if o180.1 = (o94.2.2.1.2 0 (8 : Int32).toNatClampNeg) then (f_X6_count 11 o180.2).bind fun o184 => (if o184.1 = 0 then (f_X6_count 3 o184.2).bind fun o187 => (f_X6_count 4 o187.2).bind fun o189 => (if (o187.1 - o189.1) = o46.1 then some (1, (o189.2, o94.2.2.1)) else some (0, (o189.2, o94.2.2.1))) else some (0, (o184.2, o94.2.2.1))) else some (0, (o180.2, o94.2.2.1))) else none else some (0, (o171.2, o94.2.2.1))) else none else some (0, (o162.2, o94.2.2.1))) else none else some (0, (o158.2, o94.2.2.1))) else none else some (0, (o154.2, o94.2.2.1))) else none else some (0, (o150.2, o94.2.2.1))) else none else some (0, (o146.2, o94.2.2.1))) else none else some (0, (o142.2, o94.2.2.1))) else none else some (0, (o138.2, o94.2.2.1))) else none else some (0, (o135.2, o94.2.2.1)))) else none else none
set_option maxRecDepth 100000 in
set_option maxHeartbeats 4000000 in
theorem gl_L_isSo_L29 {p : Program} {l : Launch} {e : Env} {s : State} {m : MethodId} {args : Array Value} {below : List Frame} {meth : Method} {c : Code} {D : va_G} {A : Nat → Prop} {cI : ClassId × ClassId} {ad : Nat → Nat} {q : Nat} {Q : State → Prop} {o : Int32 × KT} (X : gX p s m args meth c cL_isSo 14 RL D cI) (n : Nat) : ∀ {x9 x11 x12 : Int32} {w : KT}, f_L_isSo_L29 n x9 x11 x12 w = some o → G p l e rm_L_isSo s m args below meth c D A 14 Q (wK q ad cI) 1 7 177 [some (.ref (ad 2)), some (.ref (ad 93)), some (.ref (ad 94)), none, none, none, some (.ref (ad 98)), some (.ref (ad 99)), some (.ref (ad 100)), some (.int x9), some (.ref q), some (.int o.1), none, none] [] o.2 → G p l e rm_L_isSo s m args below meth c D A 14 Q (wK q ad cI) 1 7 29 [some (.ref (ad 2)), some (.ref (ad 93)), some (.ref (ad 94)), some (.ref (ad 95)), some (.ref (ad 96)), none, some (.ref (ad 98)), some (.ref (ad 99)), some (.ref (ad 100)), some (.int x9), some (.ref q), some (.int x11), some (.int x12), none] [] w := by
  induction n with
  | zero => intro x9 x11 x12 w hf; cases hf
  | succ n ih =>
    intro x9 x11 x12 w hf k
    rw [f_L_isSo_L29] at hf
    refine g_iload X dL_isSo_29 rfl ?_
    refine g_bipush X dL_isSo_31 (v := 24) (by decide) ?_
    refine g_icmp_ge X dL_isSo_33 (tgt := 177) (by decide) hf (fun c3 hf => ?_) (fun c3 hf => ?_)
    · refine g_iconst X dL_isSo_36 (v := 1) (by decide) ?_
      refine g_iload X dL_isSo_37 rfl ?_
      refine g_ishl X dL_isSo_39 ?_
      refine g_istore X dL_isSo_40 (by decide) rfl ?_
      refine g_iload X dL_isSo_42 rfl ?_
      refine g_aload_n X (i := 3) dL_isSo_44 rfl rfl ?_
      refine g_iload X dL_isSo_45 rfl ?_
      obtain ⟨hb4, hf⟩ := hfg hf
      refine g_iald X (q0 := 95) (f := w.2.1.2 2) dL_isSo_47 rfl hb4 ?_
      obtain ⟨o6, h7, hf⟩ := hfb hf
      refine g_jn (M := 56) (lo2 := [some (.ref (ad 2)), some (.ref (ad 93)), some (.ref (ad 94)), some (.ref (ad 95)), some (.ref (ad 96)), none, some (.ref (ad 98)), some (.ref (ad 99)), some (.ref (ad 100)), some (.int x9), some (.ref q), none, some (.int x12), some (.int (1 <<< (x12 &&& 31)))]) (st2 := [.int o6, .int x11]) (w2 := w) ?_ (fun K8 => ?_)
      · refine g_iadd X dL_isSo_56 ?_
        refine g_istore X dL_isSo_57 (by decide) rfl ?_
        refine g_aload X dL_isSo_59 rfl ?_
        refine g_iconst X dL_isSo_61 (v := 0) (by decide) ?_
        refine g_dup2 X dL_isSo_62 rfl rfl ?_
        obtain ⟨hb9, hf⟩ := hfg hf
        refine g_iald X (q0 := 101) (f := w.2.2) dL_isSo_63 rfl hb9 ?_
        refine g_aload_n X (i := 3) dL_isSo_64 rfl rfl ?_
        refine g_iload X dL_isSo_65 rfl ?_
        obtain ⟨hb10, hf⟩ := hfg hf
        refine g_iald X (q0 := 95) (f := w.2.1.2 2) dL_isSo_67 rfl hb10 ?_
        obtain ⟨o12, h13, hf⟩ := hfb hf
        refine g_jn (M := 77) (lo2 := [some (.ref (ad 2)), some (.ref (ad 93)), some (.ref (ad 94)), some (.ref (ad 95)), some (.ref (ad 96)), none, some (.ref (ad 98)), some (.ref (ad 99)), some (.ref (ad 100)), some (.int x9), some (.ref q), some (.int (x11 + o6)), some (.int x12), some (.int (1 <<< (x12 &&& 31)))]) (st2 := [.int o12, .int (w.2.2 (0 : Int32).toNatClampNeg), .int 0, .ref q]) (w2 := w) ?_ (fun K14 => ?_)
        · refine g_ior X dL_isSo_77 ?_
          obtain ⟨hb15, hf⟩ := hfg hf
          refine g_iast X (q0 := 101) (f := w.2.2) dL_isSo_78 rfl hb15 (awK_8 q ad cI _ _ _) ?_
          refine g_aload X dL_isSo_79 rfl ?_
          refine g_iconst X dL_isSo_81 (v := 3) (by decide) ?_
          refine g_dup2 X dL_isSo_82 rfl rfl ?_
          obtain ⟨hb16, hf⟩ := hfg hf
          refine g_iald X (q0 := 101) (f := upd w.2.2 (0 : Int32).toNatClampNeg ((w.2.2 (0 : Int32).toNatClampNeg) ||| o12)) dL_isSo_83 rfl hb16 ?_
          refine g_aload_n X (i := 3) dL_isSo_84 rfl rfl ?_
          refine g_iload X dL_isSo_85 rfl ?_
          obtain ⟨hb17, hf⟩ := hfg hf
          refine g_iald X (q0 := 95) (f := w.2.1.2 2) dL_isSo_87 rfl hb17 ?_
          obtain ⟨o19, h20, hf⟩ := hfb hf
          refine g_jn (M := 97) (lo2 := [some (.ref (ad 2)), some (.ref (ad 93)), some (.ref (ad 94)), some (.ref (ad 95)), some (.ref (ad 96)), none, some (.ref (ad 98)), some (.ref (ad 99)), some (.ref (ad 100)), some (.int x9), some (.ref q), some (.int (x11 + o6)), some (.int x12), some (.int (1 <<< (x12 &&& 31)))]) (st2 := [.int o19, .int (upd w.2.2 (0 : Int32).toNatClampNeg ((w.2.2 (0 : Int32).toNatClampNeg) ||| o12) (3 : Int32).toNatClampNeg), .int 3, .ref q]) (w2 := (w.1, (w.2.1, upd w.2.2 (0 : Int32).toNatClampNeg ((w.2.2 (0 : Int32).toNatClampNeg) ||| o12)))) ?_ (fun K21 => ?_)
          · refine g_ior X dL_isSo_97 ?_
            obtain ⟨hb22, hf⟩ := hfg hf
            refine g_iast X (q0 := 101) (f := upd w.2.2 (0 : Int32).toNatClampNeg ((w.2.2 (0 : Int32).toNatClampNeg) ||| o12)) dL_isSo_98 rfl hb22 (awK_8 q ad cI _ _ _) ?_
            refine g_aload X dL_isSo_99 rfl ?_
            refine g_iconst X dL_isSo_101 (v := 4) (by decide) ?_
            refine g_dup2 X dL_isSo_102 rfl rfl ?_
            obtain ⟨hb23, hf⟩ := hfg hf
            refine g_iald X (q0 := 101) (f := upd (upd w.2.2 (0 : Int32).toNatClampNeg ((w.2.2 (0 : Int32).toNatClampNeg) ||| o12)) (3 : Int32).toNatClampNeg ((upd w.2.2 (0 : Int32).toNatClampNeg ((w.2.2 (0 : Int32).toNatClampNeg) ||| o12) (3 : Int32).toNatClampNeg) ||| o19)) dL_isSo_103 rfl hb23 ?_
            refine g_aload_n X (i := 3) dL_isSo_104 rfl rfl ?_
            refine g_iload X dL_isSo_105 rfl ?_
            obtain ⟨hb24, hf⟩ := hfg hf
            refine g_iald X (q0 := 95) (f := w.2.1.2 2) dL_isSo_107 rfl hb24 ?_
            refine g_iconst X dL_isSo_108 (v := 1) (by decide) ?_
            obtain ⟨o26, h27, hf⟩ := hfb hf
            refine g_jn (M := 118) (lo2 := [some (.ref (ad 2)), some (.ref (ad 93)), some (.ref (ad 94)), some (.ref (ad 95)), some (.ref (ad 96)), none, some (.ref (ad 98)), some (.ref (ad 99)), some (.ref (ad 100)), some (.int x9), some (.ref q), some (.int (x11 + o6)), some (.int x12), some (.int (1 <<< (x12 &&& 31)))]) (st2 := [.int o26, .int (upd (upd w.2.2 (0 : Int32).toNatClampNeg ((w.2.2 (0 : Int32).toNatClampNeg) ||| o12)) (3 : Int32).toNatClampNeg ((upd w.2.2 (0 : Int32).toNatClampNeg ((w.2.2 (0 : Int32).toNatClampNeg) ||| o12) (3 : Int32).toNatClampNeg) ||| o19) (4 : Int32).toNatClampNeg), .int 4, .ref q]) (w2 := (w.1, (w.2.1, upd (upd w.2.2 (0 : Int32).toNatClampNeg ((w.2.2 (0 : Int32).toNatClampNeg) ||| o12)) (3 : Int32).toNatClampNeg ((upd w.2.2 (0 : Int32).toNatClampNeg ((w.2.2 (0 : Int32).toNatClampNeg) ||| o12) (3 : Int32).toNatClampNeg) ||| o19)))) ?_ (fun K28 => ?_)
            · refine g_ior X dL_isSo_118 ?_
              obtain ⟨hb29, hf⟩ := hfg hf
              refine g_iast X (q0 := 101) (f := upd (upd w.2.2 (0 : Int32).toNatClampNeg ((w.2.2 (0 : Int32).toNatClampNeg) ||| o12)) (3 : Int32).toNatClampNeg ((upd w.2.2 (0 : Int32).toNatClampNeg ((w.2.2 (0 : Int32).toNatClampNeg) ||| o12) (3 : Int32).toNatClampNeg) ||| o19)) dL_isSo_119 rfl hb29 (awK_8 q ad cI _ _ _) ?_
              refine g_aload X dL_isSo_120 rfl ?_
              refine g_iconst X dL_isSo_122 (v := 5) (by decide) ?_
              refine g_dup2 X dL_isSo_123 rfl rfl ?_
              obtain ⟨hb30, hf⟩ := hfg hf
              refine g_iald X (q0 := 101) (f := upd (upd (upd w.2.2 (0 : Int32).toNatClampNeg ((w.2.2 (0 : Int32).toNatClampNeg) ||| o12)) (3 : Int32).toNatClampNeg ((upd w.2.2 (0 : Int32).toNatClampNeg ((w.2.2 (0 : Int32).toNatClampNeg) ||| o12) (3 : Int32).toNatClampNeg) ||| o19)) (4 : Int32).toNatClampNeg ((upd (upd w.2.2 (0 : Int32).toNatClampNeg ((w.2.2 (0 : Int32).toNatClampNeg) ||| o12)) (3 : Int32).toNatClampNeg ((upd w.2.2 (0 : Int32).toNatClampNeg ((w.2.2 (0 : Int32).toNatClampNeg) ||| o12) (3 : Int32).toNatClampNeg) ||| o19) (4 : Int32).toNatClampNeg) ||| o26)) dL_isSo_124 rfl hb30 ?_
              refine g_aload_n X (i := 3) dL_isSo_125 rfl rfl ?_
              refine g_iload X dL_isSo_126 rfl ?_
              obtain ⟨hb31, hf⟩ := hfg hf
              refine g_iald X (q0 := 95) (f := w.2.1.2 2) dL_isSo_128 rfl hb31 ?_
              refine g_iconst X dL_isSo_129 (v := 2) (by decide) ?_
              obtain ⟨o33, h34, hf⟩ := hfb hf
              refine g_jn (M := 139) (lo2 := [some (.ref (ad 2)), some (.ref (ad 93)), some (.ref (ad 94)), some (.ref (ad 95)), some (.ref (ad 96)), none, some (.ref (ad 98)), some (.ref (ad 99)), some (.ref (ad 100)), some (.int x9), some (.ref q), some (.int (x11 + o6)), some (.int x12), some (.int (1 <<< (x12 &&& 31)))]) (st2 := [.int o33, .int (upd (upd (upd w.2.2 (0 : Int32).toNatClampNeg ((w.2.2 (0 : Int32).toNatClampNeg) ||| o12)) (3 : Int32).toNatClampNeg ((upd w.2.2 (0 : Int32).toNatClampNeg ((w.2.2 (0 : Int32).toNatClampNeg) ||| o12) (3 : Int32).toNatClampNeg) ||| o19)) (4 : Int32).toNatClampNeg ((upd (upd w.2.2 (0 : Int32).toNatClampNeg ((w.2.2 (0 : Int32).toNatClampNeg) ||| o12)) (3 : Int32).toNatClampNeg ((upd w.2.2 (0 : Int32).toNatClampNeg ((w.2.2 (0 : Int32).toNatClampNeg) ||| o12) (3 : Int32).toNatClampNeg) ||| o19) (4 : Int32).toNatClampNeg) ||| o26) (5 : Int32).toNatClampNeg), .int 5, .ref q]) (w2 := (w.1, (w.2.1, upd (upd (upd w.2.2 (0 : Int32).toNatClampNeg ((w.2.2 (0 : Int32).toNatClampNeg) ||| o12)) (3 : Int32).toNatClampNeg ((upd w.2.2 (0 : Int32).toNatClampNeg ((w.2.2 (0 : Int32).toNatClampNeg) ||| o12) (3 : Int32).toNatClampNeg) ||| o19)) (4 : Int32).toNatClampNeg ((upd (upd w.2.2 (0 : Int32).toNatClampNeg ((w.2.2 (0 : Int32).toNatClampNeg) ||| o12)) (3 : Int32).toNatClampNeg ((upd w.2.2 (0 : Int32).toNatClampNeg ((w.2.2 (0 : Int32).toNatClampNeg) ||| o12) (3 : Int32).toNatClampNeg) ||| o19) (4 : Int32).toNatClampNeg) ||| o26)))) ?_ (fun K35 => ?_)
              · refine g_ior X dL_isSo_139 ?_
                obtain ⟨hb36, hf⟩ := hfg hf
                refine g_iast X (q0 := 101) (f := upd (upd (upd w.2.2 (0 : Int32).toNatClampNeg ((w.2.2 (0 : Int32).toNatClampNeg) ||| o12)) (3 : Int32).toNatClampNeg ((upd w.2.2 (0 : Int32).toNatClampNeg ((w.2.2 (0 : Int32).toNatClampNeg) ||| o12) (3 : Int32).toNatClampNeg) ||| o19)) (4 : Int32).toNatClampNeg ((upd (upd w.2.2 (0 : Int32).toNatClampNeg ((w.2.2 (0 : Int32).toNatClampNeg) ||| o12)) (3 : Int32).toNatClampNeg ((upd w.2.2 (0 : Int32).toNatClampNeg ((w.2.2 (0 : Int32).toNatClampNeg) ||| o12) (3 : Int32).toNatClampNeg) ||| o19) (4 : Int32).toNatClampNeg) ||| o26)) dL_isSo_140 rfl hb36 (awK_8 q ad cI _ _ _) ?_
                refine g_aload X dL_isSo_141 rfl ?_
                refine g_bipush X dL_isSo_143 (v := 6) (by decide) ?_
                refine g_dup2 X dL_isSo_145 rfl rfl ?_
                obtain ⟨hb37, hf⟩ := hfg hf
                refine g_iald X (q0 := 101) (f := upd (upd (upd (upd w.2.2 (0 : Int32).toNatClampNeg ((w.2.2 (0 : Int32).toNatClampNeg) ||| o12)) (3 : Int32).toNatClampNeg ((upd w.2.2 (0 : Int32).toNatClampNeg ((w.2.2 (0 : Int32).toNatClampNeg) ||| o12) (3 : Int32).toNatClampNeg) ||| o19)) (4 : Int32).toNatClampNeg ((upd (upd w.2.2 (0 : Int32).toNatClampNeg ((w.2.2 (0 : Int32).toNatClampNeg) ||| o12)) (3 : Int32).toNatClampNeg ((upd w.2.2 (0 : Int32).toNatClampNeg ((w.2.2 (0 : Int32).toNatClampNeg) ||| o12) (3 : Int32).toNatClampNeg) ||| o19) (4 : Int32).toNatClampNeg) ||| o26)) (5 : Int32).toNatClampNeg ((upd (upd (upd w.2.2 (0 : Int32).toNatClampNeg ((w.2.2 (0 : Int32).toNatClampNeg) ||| o12)) (3 : Int32).toNatClampNeg ((upd w.2.2 (0 : Int32).toNatClampNeg ((w.2.2 (0 : Int32).toNatClampNeg) ||| o12) (3 : Int32).toNatClampNeg) ||| o19)) (4 : Int32).toNatClampNeg ((upd (upd w.2.2 (0 : Int32).toNatClampNeg ((w.2.2 (0 : Int32).toNatClampNeg) ||| o12)) (3 : Int32).toNatClampNeg ((upd w.2.2 (0 : Int32).toNatClampNeg ((w.2.2 (0 : Int32).toNatClampNeg) ||| o12) (3 : Int32).toNatClampNeg) ||| o19) (4 : Int32).toNatClampNeg) ||| o26) (5 : Int32).toNatClampNeg) ||| o33)) dL_isSo_146 rfl hb37 ?_
                refine g_aload_n X (i := 3) dL_isSo_147 rfl rfl ?_
                refine g_iload X dL_isSo_148 rfl ?_
                obtain ⟨hb38, hf⟩ := hfg hf
                refine g_iald X (q0 := 95) (f := w.2.1.2 2) dL_isSo_150 rfl hb38 ?_
                obtain ⟨o40, h41, hf⟩ := hfb hf
                refine g_jn (M := 169) (lo2 := [some (.ref (ad 2)), some (.ref (ad 93)), some (.ref (ad 94)), some (.ref (ad 95)), some (.ref (ad 96)), none, some (.ref (ad 98)), some (.ref (ad 99)), some (.ref (ad 100)), some (.int x9), some (.ref q), some (.int (x11 + o6)), some (.int x12), none]) (st2 := [.int o40, .int (upd (upd (upd (upd w.2.2 (0 : Int32).toNatClampNeg ((w.2.2 (0 : Int32).toNatClampNeg) ||| o12)) (3 : Int32).toNatClampNeg ((upd w.2.2 (0 : Int32).toNatClampNeg ((w.2.2 (0 : Int32).toNatClampNeg) ||| o12) (3 : Int32).toNatClampNeg) ||| o19)) (4 : Int32).toNatClampNeg ((upd (upd w.2.2 (0 : Int32).toNatClampNeg ((w.2.2 (0 : Int32).toNatClampNeg) ||| o12)) (3 : Int32).toNatClampNeg ((upd w.2.2 (0 : Int32).toNatClampNeg ((w.2.2 (0 : Int32).toNatClampNeg) ||| o12) (3 : Int32).toNatClampNeg) ||| o19) (4 : Int32).toNatClampNeg) ||| o26)) (5 : Int32).toNatClampNeg ((upd (upd (upd w.2.2 (0 : Int32).toNatClampNeg ((w.2.2 (0 : Int32).toNatClampNeg) ||| o12)) (3 : Int32).toNatClampNeg ((upd w.2.2 (0 : Int32).toNatClampNeg ((w.2.2 (0 : Int32).toNatClampNeg) ||| o12) (3 : Int32).toNatClampNeg) ||| o19)) (4 : Int32).toNatClampNeg ((upd (upd w.2.2 (0 : Int32).toNatClampNeg ((w.2.2 (0 : Int32).toNatClampNeg) ||| o12)) (3 : Int32).toNatClampNeg ((upd w.2.2 (0 : Int32).toNatClampNeg ((w.2.2 (0 : Int32).toNatClampNeg) ||| o12) (3 : Int32).toNatClampNeg) ||| o19) (4 : Int32).toNatClampNeg) ||| o26) (5 : Int32).toNatClampNeg) ||| o33) (6 : Int32).toNatClampNeg), .int 6, .ref q]) (w2 := (w.1, (w.2.1, upd (upd (upd (upd w.2.2 (0 : Int32).toNatClampNeg ((w.2.2 (0 : Int32).toNatClampNeg) ||| o12)) (3 : Int32).toNatClampNeg ((upd w.2.2 (0 : Int32).toNatClampNeg ((w.2.2 (0 : Int32).toNatClampNeg) ||| o12) (3 : Int32).toNatClampNeg) ||| o19)) (4 : Int32).toNatClampNeg ((upd (upd w.2.2 (0 : Int32).toNatClampNeg ((w.2.2 (0 : Int32).toNatClampNeg) ||| o12)) (3 : Int32).toNatClampNeg ((upd w.2.2 (0 : Int32).toNatClampNeg ((w.2.2 (0 : Int32).toNatClampNeg) ||| o12) (3 : Int32).toNatClampNeg) ||| o19) (4 : Int32).toNatClampNeg) ||| o26)) (5 : Int32).toNatClampNeg ((upd (upd (upd w.2.2 (0 : Int32).toNatClampNeg ((w.2.2 (0 : Int32).toNatClampNeg) ||| o12)) (3 : Int32).toNatClampNeg ((upd w.2.2 (0 : Int32).toNatClampNeg ((w.2.2 (0 : Int32).toNatClampNeg) ||| o12) (3 : Int32).toNatClampNeg) ||| o19)) (4 : Int32).toNatClampNeg ((upd (upd w.2.2 (0 : Int32).toNatClampNeg ((w.2.2 (0 : Int32).toNatClampNeg) ||| o12)) (3 : Int32).toNatClampNeg ((upd w.2.2 (0 : Int32).toNatClampNeg ((w.2.2 (0 : Int32).toNatClampNeg) ||| o12) (3 : Int32).toNatClampNeg) ||| o19) (4 : Int32).toNatClampNeg) ||| o26) (5 : Int32).toNatClampNeg) ||| o33)))) ?_ (fun K42 => ?_)
                · refine g_ior X dL_isSo_169 ?_
                  obtain ⟨hb45, hf⟩ := hfg hf
                  refine g_iast X (q0 := 101) (f := upd (upd (upd (upd w.2.2 (0 : Int32).toNatClampNeg ((w.2.2 (0 : Int32).toNatClampNeg) ||| o12)) (3 : Int32).toNatClampNeg ((upd w.2.2 (0 : Int32).toNatClampNeg ((w.2.2 (0 : Int32).toNatClampNeg) ||| o12) (3 : Int32).toNatClampNeg) ||| o19)) (4 : Int32).toNatClampNeg ((upd (upd w.2.2 (0 : Int32).toNatClampNeg ((w.2.2 (0 : Int32).toNatClampNeg) ||| o12)) (3 : Int32).toNatClampNeg ((upd w.2.2 (0 : Int32).toNatClampNeg ((w.2.2 (0 : Int32).toNatClampNeg) ||| o12) (3 : Int32).toNatClampNeg) ||| o19) (4 : Int32).toNatClampNeg) ||| o26)) (5 : Int32).toNatClampNeg ((upd (upd (upd w.2.2 (0 : Int32).toNatClampNeg ((w.2.2 (0 : Int32).toNatClampNeg) ||| o12)) (3 : Int32).toNatClampNeg ((upd w.2.2 (0 : Int32).toNatClampNeg ((w.2.2 (0 : Int32).toNatClampNeg) ||| o12) (3 : Int32).toNatClampNeg) ||| o19)) (4 : Int32).toNatClampNeg ((upd (upd w.2.2 (0 : Int32).toNatClampNeg ((w.2.2 (0 : Int32).toNatClampNeg) ||| o12)) (3 : Int32).toNatClampNeg ((upd w.2.2 (0 : Int32).toNatClampNeg ((w.2.2 (0 : Int32).toNatClampNeg) ||| o12) (3 : Int32).toNatClampNeg) ||| o19) (4 : Int32).toNatClampNeg) ||| o26) (5 : Int32).toNatClampNeg) ||| o33)) dL_isSo_170 rfl hb45 (awK_8 q ad cI _ _ _) ?_
                  refine g_iinc X (i := 12) (v := 1) dL_isSo_171 rfl (by decide) (by decide) rfl ?_
                  refine g_goto X dL_isSo_174 (tgt := 29) (by decide) ?_
                  exact ih hf k
                · have hf := h41
                  refine g_if_lt X dL_isSo_151 (tgt := 168) (by decide) hf (fun c39 hf => ?_) (fun c39 hf => ?_)
                  · refine g_iconst X dL_isSo_168 (v := 0) (by decide) ?_
                    obtain rfl := Option.some.inj hf
                    refine g_sub (losub (lo' := [some (.ref (ad 2)), some (.ref (ad 93)), some (.ref (ad 94)), some (.ref (ad 95)), some (.ref (ad 96)), none, some (.ref (ad 98)), some (.ref (ad 99)), some (.ref (ad 100)), some (.int x9), some (.ref q), some (.int (x11 + o6)), some (.int x12), none]) ⟨rfl, rfl, rfl, rfl, rfl, rfl, rfl, rfl, rfl, rfl, rfl, rfl, trivial⟩) ?_
                    exact K42
                  · refine g_aload X dL_isSo_154 rfl ?_
                    refine g_iload X dL_isSo_156 rfl ?_
                    obtain ⟨hb43, hf⟩ := hfg hf
                    refine g_iald X (q0 := 96) (f := w.2.1.2 3) dL_isSo_158 rfl hb43 ?_
                    refine g_iconst X dL_isSo_159 (v := 1) (by decide) ?_
                    refine g_icmp_ne X dL_isSo_160 (tgt := 168) (by decide) hf (fun c44 hf => ?_) (fun c44 hf => ?_)
                    · refine g_iload X dL_isSo_163 rfl ?_
                      refine g_goto X dL_isSo_165 (tgt := 169) (by decide) ?_
                      obtain rfl := Option.some.inj hf
                      refine g_sub (losub (lo' := [some (.ref (ad 2)), some (.ref (ad 93)), some (.ref (ad 94)), some (.ref (ad 95)), some (.ref (ad 96)), none, some (.ref (ad 98)), some (.ref (ad 99)), some (.ref (ad 100)), some (.int x9), some (.ref q), some (.int (x11 + o6)), some (.int x12), none]) ⟨rfl, rfl, rfl, rfl, rfl, rfl, rfl, rfl, rfl, rfl, rfl, rfl, trivial⟩) ?_
                      exact K42
                    · refine g_iconst X dL_isSo_168 (v := 0) (by decide) ?_
                      obtain rfl := Option.some.inj hf
                      refine g_sub (losub (lo' := [some (.ref (ad 2)), some (.ref (ad 93)), some (.ref (ad 94)), some (.ref (ad 95)), some (.ref (ad 96)), none, some (.ref (ad 98)), some (.ref (ad 99)), some (.ref (ad 100)), some (.int x9), some (.ref q), some (.int (x11 + o6)), some (.int x12), none]) ⟨rfl, rfl, rfl, rfl, rfl, rfl, rfl, rfl, rfl, rfl, rfl, rfl, trivial⟩) ?_
                      exact K42
              · have hf := h34
                refine g_icmp_ne X dL_isSo_130 (tgt := 138) (by decide) hf (fun c32 hf => ?_) (fun c32 hf => ?_)
                · refine g_iload X dL_isSo_133 rfl ?_
                  refine g_goto X dL_isSo_135 (tgt := 139) (by decide) ?_
                  obtain rfl := Option.some.inj hf
                  exact K35
                · refine g_iconst X dL_isSo_138 (v := 0) (by decide) ?_
                  obtain rfl := Option.some.inj hf
                  exact K35
            · have hf := h27
              refine g_icmp_ne X dL_isSo_109 (tgt := 117) (by decide) hf (fun c25 hf => ?_) (fun c25 hf => ?_)
              · refine g_iload X dL_isSo_112 rfl ?_
                refine g_goto X dL_isSo_114 (tgt := 118) (by decide) ?_
                obtain rfl := Option.some.inj hf
                exact K28
              · refine g_iconst X dL_isSo_117 (v := 0) (by decide) ?_
                obtain rfl := Option.some.inj hf
                exact K28
          · have hf := h20
            refine g_if_ne X dL_isSo_88 (tgt := 96) (by decide) hf (fun c18 hf => ?_) (fun c18 hf => ?_)
            · refine g_iload X dL_isSo_91 rfl ?_
              refine g_goto X dL_isSo_93 (tgt := 97) (by decide) ?_
              obtain rfl := Option.some.inj hf
              exact K21
            · refine g_iconst X dL_isSo_96 (v := 0) (by decide) ?_
              obtain rfl := Option.some.inj hf
              exact K21
        · have hf := h13
          refine g_if_ge X dL_isSo_68 (tgt := 75) (by decide) hf (fun c11 hf => ?_) (fun c11 hf => ?_)
          · refine g_iconst X dL_isSo_71 (v := 0) (by decide) ?_
            refine g_goto X dL_isSo_72 (tgt := 77) (by decide) ?_
            obtain rfl := Option.some.inj hf
            exact K14
          · refine g_iload X dL_isSo_75 rfl ?_
            obtain rfl := Option.some.inj hf
            exact K14
      · have hf := h7
        refine g_if_ge X dL_isSo_48 (tgt := 55) (by decide) hf (fun c5 hf => ?_) (fun c5 hf => ?_)
        · refine g_iconst X dL_isSo_51 (v := 0) (by decide) ?_
          refine g_goto X dL_isSo_52 (tgt := 56) (by decide) ?_
          obtain rfl := Option.some.inj hf
          refine g_sub (losub (lo' := [some (.ref (ad 2)), some (.ref (ad 93)), some (.ref (ad 94)), some (.ref (ad 95)), some (.ref (ad 96)), none, some (.ref (ad 98)), some (.ref (ad 99)), some (.ref (ad 100)), some (.int x9), some (.ref q), none, some (.int x12), some (.int (1 <<< (x12 &&& 31)))]) ⟨rfl, rfl, rfl, rfl, rfl, rfl, rfl, rfl, rfl, rfl, rfl, rfl, trivial⟩) ?_
          exact K8
        · refine g_iconst X dL_isSo_55 (v := 1) (by decide) ?_
          obtain rfl := Option.some.inj hf
          refine g_sub (losub (lo' := [some (.ref (ad 2)), some (.ref (ad 93)), some (.ref (ad 94)), some (.ref (ad 95)), some (.ref (ad 96)), none, some (.ref (ad 98)), some (.ref (ad 99)), some (.ref (ad 100)), some (.int x9), some (.ref q), none, some (.int x12), some (.int (1 <<< (x12 &&& 31)))]) ⟨rfl, rfl, rfl, rfl, rfl, rfl, rfl, rfl, rfl, rfl, rfl, rfl, trivial⟩) ?_
          exact K8
    · obtain rfl := Option.some.inj hf
      refine g_sub (losub (lo' := [some (.ref (ad 2)), some (.ref (ad 93)), some (.ref (ad 94)), none, none, none, some (.ref (ad 98)), some (.ref (ad 99)), some (.ref (ad 100)), some (.int x9), some (.ref q), some (.int x11), none, none]) ⟨rfl, rfl, rfl, rfl, rfl, rfl, rfl, rfl, rfl, trivial⟩) ?_
      exact k
set_option maxRecDepth 100000 in
set_option maxHeartbeats 4000000 in
theorem gl_L_isSo_L204 {p : Program} {l : Launch} {e : Env} {s : State} {m : MethodId} {args : Array Value} {below : List Frame} {meth : Method} {c : Code} {D : va_G} {A : Nat → Prop} {cI : ClassId × ClassId} {ad : Nat → Nat} {q : Nat} {Q : State → Prop} {o : Int32 × KT} (X : gX p s m args meth c cL_isSo 14 RL D cI) (n : Nat) : ∀ {x9 x11 x12 : Int32} {w : KT}, f_L_isSo_L204 n x9 x11 x12 w = some o → G p l e rm_L_isSo s m args below meth c D A 14 Q (wK q ad cI) 1 7 243 [some (.ref (ad 2)), some (.ref (ad 93)), none, none, none, none, none, some (.ref (ad 99)), some (.ref (ad 100)), some (.int o.1), some (.ref q), some (.int x11), none, none] [] o.2 → G p l e rm_L_isSo s m args below meth c D A 14 Q (wK q ad cI) 1 7 204 [some (.ref (ad 2)), some (.ref (ad 93)), none, none, none, none, none, some (.ref (ad 99)), some (.ref (ad 100)), some (.int x9), some (.ref q), some (.int x11), some (.int x12), none] [] w := by
  induction n with
  | zero => intro x9 x11 x12 w hf; cases hf
  | succ n ih =>
    intro x9 x11 x12 w hf k
    rw [f_L_isSo_L204] at hf
    refine g_iload X dL_isSo_204 rfl ?_
    refine g_bipush X dL_isSo_206 (v := 7) (by decide) ?_
    refine g_icmp_ge X dL_isSo_208 (tgt := 243) (by decide) hf (fun c54 hf => ?_) (fun c54 hf => ?_)
    · refine g_iload X dL_isSo_211 rfl ?_
      refine g_if_eq X dL_isSo_213 (tgt := 243) (by decide) hf (fun c55 hf => ?_) (fun c55 hf => ?_)
      · obtain rfl := Option.some.inj hf
        refine g_sub (losub (lo' := [some (.ref (ad 2)), some (.ref (ad 93)), none, none, none, none, none, some (.ref (ad 99)), some (.ref (ad 100)), some (.int x9), some (.ref q), some (.int x11), none, none]) ⟨rfl, rfl, rfl, rfl, rfl, rfl, rfl, trivial⟩) ?_
        exact k
      · refine g_aload_n X (i := 0) dL_isSo_216 rfl rfl ?_
        refine g_iload X dL_isSo_217 rfl ?_
        obtain ⟨o56, h57, hf⟩ := hfb hf
        refine g_Vi X (q0 := 2) (As := [.int x12]) (rest := []) (w1 := (o56.2, (w.2.1, w.2.2))) (liftK_T (m := w.2.1) (v := w.2.2) (c_X6_objects (ad := ad) h57)) dL_isSo_219 ml_L_112 yv_X6_objects rfl rfl rfl rfl ⟨Nat.le_of_ble_eq_true rfl, Nat.le_of_ble_eq_true rfl⟩ ⟨rfl, rfl⟩ (Nat.le_of_ble_eq_true rfl) ⟨Nat.le_of_ble_eq_true rfl, Nat.le_of_ble_eq_true rfl⟩ ?_
        refine g_aload X dL_isSo_222 rfl ?_
        refine g_iload X dL_isSo_224 rfl ?_
        obtain ⟨hb58, hf⟩ := hfg hf
        refine g_iald X (q0 := 101) (f := w.2.2) dL_isSo_226 rfl hb58 ?_
        obtain ⟨o60, h61, hf⟩ := hfb hf
        refine g_jn (M := 235) (lo2 := [some (.ref (ad 2)), some (.ref (ad 93)), none, none, none, none, none, some (.ref (ad 99)), some (.ref (ad 100)), none, some (.ref q), some (.int x11), some (.int x12), none]) (st2 := [.int o60]) (w2 := (o56.2, (w.2.1, w.2.2))) ?_ (fun K62 => ?_)
        · refine g_istore X dL_isSo_235 (by decide) rfl ?_
          refine g_iinc X (i := 12) (v := 1) dL_isSo_237 rfl (by decide) (by decide) rfl ?_
          refine g_goto X dL_isSo_240 (tgt := 204) (by decide) ?_
          exact ih hf k
        · have hf := h61
          refine g_icmp_ne X dL_isSo_227 (tgt := 234) (by decide) hf (fun c59 hf => ?_) (fun c59 hf => ?_)
          · refine g_iconst X dL_isSo_230 (v := 1) (by decide) ?_
            refine g_goto X dL_isSo_231 (tgt := 235) (by decide) ?_
            obtain rfl := Option.some.inj hf
            refine g_sub (losub (lo' := [some (.ref (ad 2)), some (.ref (ad 93)), none, none, none, none, none, some (.ref (ad 99)), some (.ref (ad 100)), none, some (.ref q), some (.int x11), some (.int x12), none]) ⟨rfl, rfl, rfl, rfl, rfl, rfl, rfl, trivial⟩) ?_
            exact K62
          · refine g_iconst X dL_isSo_234 (v := 0) (by decide) ?_
            obtain rfl := Option.some.inj hf
            refine g_sub (losub (lo' := [some (.ref (ad 2)), some (.ref (ad 93)), none, none, none, none, none, some (.ref (ad 99)), some (.ref (ad 100)), none, some (.ref q), some (.int x11), some (.int x12), none]) ⟨rfl, rfl, rfl, rfl, rfl, rfl, rfl, trivial⟩) ?_
            exact K62
    · obtain rfl := Option.some.inj hf
      refine g_sub (losub (lo' := [some (.ref (ad 2)), some (.ref (ad 93)), none, none, none, none, none, some (.ref (ad 99)), some (.ref (ad 100)), some (.int x9), some (.ref q), some (.int x11), none, none]) ⟨rfl, rfl, rfl, rfl, rfl, rfl, rfl, trivial⟩) ?_
      exact k
set_option maxRecDepth 100000 in
set_option maxHeartbeats 4000000 in
theorem gl_L_isSo_L246 {p : Program} {l : Launch} {e : Env} {s : State} {m : MethodId} {args : Array Value} {below : List Frame} {meth : Method} {c : Code} {D : va_G} {A : Nat → Prop} {cI : ClassId × ClassId} {ad : Nat → Nat} {q : Nat} {Q : State → Prop} {o : Int32 × KT} (X : gX p s m args meth c cL_isSo 14 RL D cI) (n : Nat) : ∀ {x9 x11 x12 : Int32} {w : KT}, f_L_isSo_L246 n x9 x11 x12 w = some o → G p l e rm_L_isSo s m args below meth c D A 14 Q (wK q ad cI) 1 7 304 [some (.ref (ad 2)), some (.ref (ad 93)), none, none, none, none, none, some (.ref (ad 99)), none, some (.int o.1), some (.ref q), some (.int x11), none, none] [] o.2 → G p l e rm_L_isSo s m args below meth c D A 14 Q (wK q ad cI) 1 7 246 [some (.ref (ad 2)), some (.ref (ad 93)), none, none, none, none, none, some (.ref (ad 99)), some (.ref (ad 100)), some (.int x9), some (.ref q), some (.int x11), some (.int x12), none] [] w := by
  induction n with
  | zero => intro x9 x11 x12 w hf; cases hf
  | succ n ih =>
    intro x9 x11 x12 w hf k
    rw [f_L_isSo_L246] at hf
    refine g_iload X dL_isSo_246 rfl ?_
    refine g_bipush X dL_isSo_248 (v := 8) (by decide) ?_
    refine g_icmp_ge X dL_isSo_250 (tgt := 304) (by decide) hf (fun c65 hf => ?_) (fun c65 hf => ?_)
    · refine g_iload X dL_isSo_253 rfl ?_
      refine g_if_eq X dL_isSo_255 (tgt := 304) (by decide) hf (fun c66 hf => ?_) (fun c66 hf => ?_)
      · obtain rfl := Option.some.inj hf
        refine g_sub (losub (lo' := [some (.ref (ad 2)), some (.ref (ad 93)), none, none, none, none, none, some (.ref (ad 99)), none, some (.int x9), some (.ref q), some (.int x11), none, none]) ⟨rfl, rfl, rfl, rfl, rfl, rfl, trivial⟩) ?_
        exact k
      · refine g_aload_n X (i := 0) dL_isSo_258 rfl rfl ?_
        refine g_iload X dL_isSo_259 rfl ?_
        refine g_iconst X dL_isSo_261 (v := 4) (by decide) ?_
        refine g_idiv X dL_isSo_262 (by decide) ?_
        refine g_iload X dL_isSo_263 rfl ?_
        refine g_iconst X dL_isSo_265 (v := 4) (by decide) ?_
        refine g_irem X dL_isSo_266 (by decide) ?_
        obtain ⟨o67, h68, hf⟩ := hfb hf
        refine g_Vi X (q0 := 2) (As := [.int (x12 / 4), .int (x12 - x12 / 4 * 4)]) (rest := []) (w1 := (o67.2, (w.2.1, w.2.2))) (liftK_T (m := w.2.1) (v := w.2.2) (c_X6_refers (ad := ad) h68)) dL_isSo_267 ml_L_115 yv_X6_refers rfl rfl rfl rfl ⟨Nat.le_of_ble_eq_true rfl, Nat.le_of_ble_eq_true rfl⟩ ⟨rfl, rfl⟩ (Nat.le_of_ble_eq_true rfl) ⟨Nat.le_of_ble_eq_true rfl, Nat.le_of_ble_eq_true rfl⟩ ?_
        refine g_aload X dL_isSo_270 rfl ?_
        refine g_iload X dL_isSo_272 rfl ?_
        obtain ⟨hb69, hf⟩ := hfg hf
        refine g_iald X (q0 := 100) (f := w.2.1.2 7) dL_isSo_274 rfl hb69 ?_
        obtain ⟨o71, h72, hf⟩ := hfb hf
        refine g_jn (M := 288) (lo2 := [some (.ref (ad 2)), some (.ref (ad 93)), none, none, none, none, none, some (.ref (ad 99)), some (.ref (ad 100)), none, some (.ref q), some (.int x11), some (.int x12), none]) (st2 := [.int o71, .int o67.1]) (w2 := (o67.2, (w.2.1, w.2.2))) ?_ (fun K73 => ?_)
        · obtain ⟨o76, h77, hf⟩ := hfb hf
          refine g_jn (M := 296) (lo2 := [some (.ref (ad 2)), some (.ref (ad 93)), none, none, none, none, none, some (.ref (ad 99)), some (.ref (ad 100)), none, some (.ref q), some (.int x11), some (.int x12), none]) (st2 := [.int o76]) (w2 := (o67.2, (w.2.1, w.2.2))) ?_ (fun K78 => ?_)
          · refine g_istore X dL_isSo_296 (by decide) rfl ?_
            refine g_iinc X (i := 12) (v := 1) dL_isSo_298 rfl (by decide) (by decide) rfl ?_
            refine g_goto X dL_isSo_301 (tgt := 246) (by decide) ?_
            exact ih hf k
          · have hf := h77
            refine g_icmp_ne X dL_isSo_288 (tgt := 295) (by decide) hf (fun c75 hf => ?_) (fun c75 hf => ?_)
            · refine g_iconst X dL_isSo_291 (v := 1) (by decide) ?_
              refine g_goto X dL_isSo_292 (tgt := 296) (by decide) ?_
              obtain rfl := Option.some.inj hf
              exact K78
            · refine g_iconst X dL_isSo_295 (v := 0) (by decide) ?_
              obtain rfl := Option.some.inj hf
              exact K78
        · have hf := h72
          refine g_if_ge X dL_isSo_275 (tgt := 283) (by decide) hf (fun c70 hf => ?_) (fun c70 hf => ?_)
          · refine g_bipush X dL_isSo_278 (v := (-14)) (by decide) ?_
            refine g_goto X dL_isSo_280 (tgt := 288) (by decide) ?_
            obtain rfl := Option.some.inj hf
            refine g_sub (losub (lo' := [some (.ref (ad 2)), some (.ref (ad 93)), none, none, none, none, none, some (.ref (ad 99)), some (.ref (ad 100)), none, some (.ref q), some (.int x11), some (.int x12), none]) ⟨rfl, rfl, rfl, rfl, rfl, rfl, rfl, trivial⟩) ?_
            exact K73
          · refine g_aload X dL_isSo_283 rfl ?_
            refine g_iload X dL_isSo_285 rfl ?_
            obtain ⟨hb74, hf⟩ := hfg hf
            refine g_iald X (q0 := 100) (f := w.2.1.2 7) dL_isSo_287 rfl hb74 ?_
            obtain rfl := Option.some.inj hf
            refine g_sub (losub (lo' := [some (.ref (ad 2)), some (.ref (ad 93)), none, none, none, none, none, some (.ref (ad 99)), some (.ref (ad 100)), none, some (.ref q), some (.int x11), some (.int x12), none]) ⟨rfl, rfl, rfl, rfl, rfl, rfl, rfl, trivial⟩) ?_
            exact K73
    · obtain rfl := Option.some.inj hf
      refine g_sub (losub (lo' := [some (.ref (ad 2)), some (.ref (ad 93)), none, none, none, none, none, some (.ref (ad 99)), none, some (.int x9), some (.ref q), some (.int x11), none, none]) ⟨rfl, rfl, rfl, rfl, rfl, rfl, trivial⟩) ?_
      exact k
set_option maxRecDepth 100000 in
set_option maxHeartbeats 4000000 in
theorem gl_L_isSo_L307 {p : Program} {l : Launch} {e : Env} {s : State} {m : MethodId} {args : Array Value} {below : List Frame} {meth : Method} {c : Code} {D : va_G} {A : Nat → Prop} {cI : ClassId × ClassId} {ad : Nat → Nat} {q : Nat} {Q : State → Prop} {o : Int32 × KT} (X : gX p s m args meth c cL_isSo 14 RL D cI) (n : Nat) : ∀ {x9 x11 x12 : Int32} {w : KT}, f_L_isSo_L307 n x9 x11 x12 w = some o → G p l e rm_L_isSo s m args below meth c D A 14 Q (wK q ad cI) 1 7 348 [some (.ref (ad 2)), some (.ref (ad 93)), none, none, none, none, none, none, none, some (.int o.1), some (.ref q), some (.int x11), none, none] [] o.2 → G p l e rm_L_isSo s m args below meth c D A 14 Q (wK q ad cI) 1 7 307 [some (.ref (ad 2)), some (.ref (ad 93)), none, none, none, none, none, some (.ref (ad 99)), none, some (.int x9), some (.ref q), some (.int x11), some (.int x12), none] [] w := by
  induction n with
  | zero => intro x9 x11 x12 w hf; cases hf
  | succ n ih =>
    intro x9 x11 x12 w hf k
    rw [f_L_isSo_L307] at hf
    refine g_iload X dL_isSo_307 rfl ?_
    refine g_aload_n X (i := 1) dL_isSo_309 rfl rfl ?_
    refine g_bipush X dL_isSo_310 (v := 10) (by decide) ?_
    obtain ⟨hb81, hf⟩ := hfg hf
    refine g_iald X (q0 := 93) (f := w.2.1.2 0) dL_isSo_312 rfl hb81 ?_
    refine g_icmp_ge X dL_isSo_313 (tgt := 348) (by decide) hf (fun c82 hf => ?_) (fun c82 hf => ?_)
    · refine g_iload X dL_isSo_316 rfl ?_
      refine g_if_eq X dL_isSo_318 (tgt := 348) (by decide) hf (fun c83 hf => ?_) (fun c83 hf => ?_)
      · obtain rfl := Option.some.inj hf
        refine g_sub (losub (lo' := [some (.ref (ad 2)), some (.ref (ad 93)), none, none, none, none, none, none, none, some (.int x9), some (.ref q), some (.int x11), none, none]) ⟨rfl, rfl, rfl, rfl, rfl, trivial⟩) ?_
        exact k
      · refine g_aload_n X (i := 0) dL_isSo_321 rfl rfl ?_
        refine g_iload X dL_isSo_322 rfl ?_
        obtain ⟨o84, h85, hf⟩ := hfb hf
        refine g_Vi X (q0 := 2) (As := [.int x12]) (rest := []) (w1 := (o84.2, (w.2.1, w.2.2))) (liftK_T (m := w.2.1) (v := w.2.2) (c_X6_grey (ad := ad) h85)) dL_isSo_324 ml_L_118 yv_X6_grey rfl rfl rfl rfl ⟨Nat.le_of_ble_eq_true rfl, Nat.le_of_ble_eq_true rfl⟩ ⟨rfl, rfl⟩ (Nat.le_of_ble_eq_true rfl) ⟨Nat.le_of_ble_eq_true rfl, Nat.le_of_ble_eq_true rfl⟩ ?_
        refine g_aload X dL_isSo_327 rfl ?_
        refine g_iload X dL_isSo_329 rfl ?_
        obtain ⟨hb86, hf⟩ := hfg hf
        refine g_iald X (q0 := 99) (f := w.2.1.2 6) dL_isSo_331 rfl hb86 ?_
        obtain ⟨o88, h89, hf⟩ := hfb hf
        refine g_jn (M := 340) (lo2 := [some (.ref (ad 2)), some (.ref (ad 93)), none, none, none, none, none, some (.ref (ad 99)), none, none, some (.ref q), some (.int x11), some (.int x12), none]) (st2 := [.int o88]) (w2 := (o84.2, (w.2.1, w.2.2))) ?_ (fun K90 => ?_)
        · refine g_istore X dL_isSo_340 (by decide) rfl ?_
          refine g_iinc X (i := 12) (v := 1) dL_isSo_342 rfl (by decide) (by decide) rfl ?_
          refine g_goto X dL_isSo_345 (tgt := 307) (by decide) ?_
          exact ih hf k
        · have hf := h89
          refine g_icmp_ne X dL_isSo_332 (tgt := 339) (by decide) hf (fun c87 hf => ?_) (fun c87 hf => ?_)
          · refine g_iconst X dL_isSo_335 (v := 1) (by decide) ?_
            refine g_goto X dL_isSo_336 (tgt := 340) (by decide) ?_
            obtain rfl := Option.some.inj hf
            refine g_sub (losub (lo' := [some (.ref (ad 2)), some (.ref (ad 93)), none, none, none, none, none, some (.ref (ad 99)), none, none, some (.ref q), some (.int x11), some (.int x12), none]) ⟨rfl, rfl, rfl, rfl, rfl, rfl, trivial⟩) ?_
            exact K90
          · refine g_iconst X dL_isSo_339 (v := 0) (by decide) ?_
            obtain rfl := Option.some.inj hf
            refine g_sub (losub (lo' := [some (.ref (ad 2)), some (.ref (ad 93)), none, none, none, none, none, some (.ref (ad 99)), none, none, some (.ref q), some (.int x11), some (.int x12), none]) ⟨rfl, rfl, rfl, rfl, rfl, rfl, trivial⟩) ?_
            exact K90
    · obtain rfl := Option.some.inj hf
      refine g_sub (losub (lo' := [some (.ref (ad 2)), some (.ref (ad 93)), none, none, none, none, none, none, none, some (.int x9), some (.ref q), some (.int x11), none, none]) ⟨rfl, rfl, rfl, rfl, rfl, trivial⟩) ?_
      exact k
set_option maxRecDepth 100000 in
set_option maxHeartbeats 4000000 in
theorem c_L_isSo {l : Launch} {D : va_G} {cI : ClassId × ClassId} {A : Nat → Prop} {ad : Nat → Nat} {w : JT} {o : Int32 × JT} (hf : f_L_isSo w = some o) : CTm l D cI A yL_isSo cL_isSo 14 (some .boolean) rm_L_isSo 1 7 [.ref (ad 2), .ref (ad 93), .ref (ad 94), .ref (ad 95), .ref (ad 96), .ref (ad 97), .ref (ad 98), .ref (ad 99), .ref (ad 100)] ((wJ [] ad cI) w) o.1 ((wJ [] ad cI) o.2)   := by
  refine CTm.of (by decide +kernel) rfl (Nat.le_of_ble_eq_true rfl) ?_
  intro p e s m args below meth c X hA hr
  have X : gX p s m args meth c cL_isSo 14 RL D cI := X
  show G _ _ _ _ _ _ _ _ _ _ _ _ _ _ _ _ _ 0 [some (.ref (ad 2)), some (.ref (ad 93)), some (.ref (ad 94)), some (.ref (ad 95)), some (.ref (ad 96)), some (.ref (ad 97)), some (.ref (ad 98)), some (.ref (ad 99)), some (.ref (ad 100)), none, none, none, none, none] [] w
  unfold f_L_isSo at hf
  refine g_aload_n X (i := 0) dL_isSo_0 rfl rfl ?_
  refine g_aload_n X (i := 1) dL_isSo_1 rfl rfl ?_
  refine g_aload_n X (i := 2) dL_isSo_2 rfl rfl ?_
  refine g_aload_n X (i := 3) dL_isSo_3 rfl rfl ?_
  refine g_aload X dL_isSo_4 rfl ?_
  refine g_aload X dL_isSo_6 rfl ?_
  refine g_aload X dL_isSo_8 rfl ?_
  refine g_aload X dL_isSo_10 rfl ?_
  obtain ⟨o1, h2, hf⟩ := hfb hf
  refine g_Si X (As := [.ref (ad 2), .ref (ad 93), .ref (ad 94), .ref (ad 95), .ref (ad 96), .ref (ad 97), .ref (ad 98), .ref (ad 100)]) (rest := []) (c_L_areObjects (ad := ad) h2) dL_isSo_12 ml_L_108 yv_L_areObjects rfl rfl ⟨Nat.le_of_ble_eq_true rfl, Nat.le_of_ble_eq_true rfl⟩ ⟨rfl, rfl⟩ (Nat.le_of_ble_eq_true rfl) ⟨Nat.le_of_ble_eq_true rfl, Nat.le_of_ble_eq_true rfl⟩ ?_
  refine g_istore X dL_isSo_15 (by decide) rfl ?_
  refine g_bipush X dL_isSo_17 (v := 7) (by decide) ?_
  refine g_newJ X hA dL_isSo_19 rfl ⟨Nat.le_of_ble_eq_true rfl, Nat.le_of_ble_eq_true rfl⟩ (fun q => ?_)
  refine g_astore X dL_isSo_21 (by decide) rfl ?_
  refine g_iconst X dL_isSo_23 (v := 0) (by decide) ?_
  refine g_istore X dL_isSo_24 (by decide) rfl ?_
  refine g_iconst X dL_isSo_26 (v := 0) (by decide) ?_
  refine g_istore X dL_isSo_27 (by decide) rfl ?_
  refine g_sub (losub (lo' := [some (.ref (ad 2)), some (.ref (ad 93)), some (.ref (ad 94)), some (.ref (ad 95)), some (.ref (ad 96)), none, some (.ref (ad 98)), some (.ref (ad 99)), some (.ref (ad 100)), some (.int o1.1), some (.ref q), some (.int 0), some (.int 0), none]) ⟨rfl, rfl, rfl, rfl, rfl, rfl, rfl, rfl, rfl, rfl, rfl, rfl, trivial⟩) ?_
  obtain ⟨o46, h47, hf⟩ := hfb hf
  refine gl_L_isSo_L29 X BIG h47 ?_
  refine g_aload X dL_isSo_177 rfl ?_
  refine g_iconst X dL_isSo_179 (v := 1) (by decide) ?_
  refine g_aload_n X (i := 2) dL_isSo_180 rfl rfl ?_
  refine g_aload X dL_isSo_181 rfl ?_
  refine g_iconst X dL_isSo_183 (v := (-1)) (by decide) ?_
  obtain ⟨o48, h49, hf⟩ := hfb hf
  refine g_Si X (As := [.ref (ad 94), .ref (ad 100), .int (-1)]) (rest := [.int 1, .ref q]) (w1 := (o46.2.1, (o48.2, o46.2.2.2))) (liftK_Ri (t := o46.2.1) (v := o46.2.2.2) (c_L_rooted (ad := adR ad) h49)) dL_isSo_184 ml_L_19 yv_L_rooted rfl rfl ⟨Nat.le_of_ble_eq_true rfl, Nat.le_of_ble_eq_true rfl⟩ ⟨rfl, rfl⟩ (Nat.le_of_ble_eq_true rfl) ⟨Nat.le_of_ble_eq_true rfl, Nat.le_of_ble_eq_true rfl⟩ ?_
  obtain ⟨hb50, hf⟩ := hfg hf
  refine g_iast X (q0 := 101) (f := o46.2.2.2) dL_isSo_187 rfl hb50 (awK_8 q ad cI _ _ _) ?_
  refine g_aload X dL_isSo_188 rfl ?_
  refine g_iconst X dL_isSo_190 (v := 2) (by decide) ?_
  refine g_aload_n X (i := 1) dL_isSo_191 rfl rfl ?_
  refine g_aload_n X (i := 2) dL_isSo_192 rfl rfl ?_
  refine g_aload X dL_isSo_193 rfl ?_
  refine g_aload X dL_isSo_195 rfl ?_
  obtain ⟨o51, h52, hf⟩ := hfb hf
  refine g_Si X (As := [.ref (ad 93), .ref (ad 94), .ref (ad 98), .ref (ad 100)]) (rest := [.int 2, .ref q]) (w1 := (o46.2.1, (o51.2, upd o46.2.2.2 (1 : Int32).toNatClampNeg o48.1))) (liftK_Ri (t := o46.2.1) (v := upd o46.2.2.2 (1 : Int32).toNatClampNeg o48.1) (c_L_reached (ad := adR ad) h52)) dL_isSo_197 ml_L_63 yv_L_reached rfl rfl ⟨Nat.le_of_ble_eq_true rfl, Nat.le_of_ble_eq_true rfl⟩ ⟨rfl, rfl⟩ (Nat.le_of_ble_eq_true rfl) ⟨Nat.le_of_ble_eq_true rfl, Nat.le_of_ble_eq_true rfl⟩ ?_
  obtain ⟨hb53, hf⟩ := hfg hf
  refine g_iast X (q0 := 101) (f := upd o46.2.2.2 (1 : Int32).toNatClampNeg o48.1) dL_isSo_200 rfl hb53 (awK_8 q ad cI _ _ _) ?_
  refine g_iconst X dL_isSo_201 (v := 0) (by decide) ?_
  refine g_istore X dL_isSo_202 (by decide) rfl ?_
  refine g_sub (losub (lo' := [some (.ref (ad 2)), some (.ref (ad 93)), none, none, none, none, none, some (.ref (ad 99)), some (.ref (ad 100)), some (.int o1.1), some (.ref q), some (.int o46.1), some (.int 0), none]) ⟨rfl, rfl, rfl, rfl, rfl, rfl, rfl, rfl, trivial⟩) ?_
  obtain ⟨o63, h64, hf⟩ := hfb hf
  refine gl_L_isSo_L204 X BIG h64 ?_
  refine g_iconst X dL_isSo_243 (v := 0) (by decide) ?_
  refine g_istore X dL_isSo_244 (by decide) rfl ?_
  obtain ⟨o79, h80, hf⟩ := hfb hf
  refine gl_L_isSo_L246 X BIG h80 ?_
  refine g_iconst X dL_isSo_304 (v := 0) (by decide) ?_
  refine g_istore X dL_isSo_305 (by decide) rfl ?_
  obtain ⟨o91, h92, hf⟩ := hfb hf
  refine gl_L_isSo_L307 X BIG h92 ?_
  refine g_iload X dL_isSo_348 rfl ?_
  obtain ⟨o94, h95, hf⟩ := hfb hf
  refine g_jn (M := 439) (lo2 := [some (.ref (ad 2)), some (.ref (ad 93)), none, none, none, none, none, none, none, none, none, some (.int o46.1), none, none]) (st2 := [.int o94.1]) (w2 := o94.2) ?_ (fun K96 => ?_)
  · refine g_istore X dL_isSo_439 (by decide) rfl ?_
    refine g_iload X dL_isSo_441 rfl ?_
    refine g_if_eq X dL_isSo_443 (tgt := 614) (by decide) hf (fun c134 hf => ?_) (fun c134 hf => ?_)
    · refine g_iconst X dL_isSo_614 (v := 0) (by decide) ?_
      exact g_zretK X hr dL_isSo_615 rfl hf
    · refine g_aload_n X (i := 0) dL_isSo_446 rfl rfl ?_
      refine g_iconst X dL_isSo_447 (v := 0) (by decide) ?_
      obtain ⟨o135, h136, hf⟩ := hfb hf
      refine g_Vi X (q0 := 2) (As := [.int 0]) (rest := []) (w1 := (o135.2, (o94.2.2.1, o94.2.2.2))) (liftK_T (m := o94.2.2.1) (v := o94.2.2.2) (c_X6_count (ad := ad) h136)) dL_isSo_448 ml_L_121 yv_X6_count rfl rfl rfl rfl ⟨Nat.le_of_ble_eq_true rfl, Nat.le_of_ble_eq_true rfl⟩ ⟨rfl, rfl⟩ (Nat.le_of_ble_eq_true rfl) ⟨Nat.le_of_ble_eq_true rfl, Nat.le_of_ble_eq_true rfl⟩ ?_
      refine g_iload X dL_isSo_451 rfl ?_
      refine g_icmp_ne X dL_isSo_453 (tgt := 614) (by decide) hf (fun c137 hf => ?_) (fun c137 hf => ?_)
      · refine g_aload_n X (i := 0) dL_isSo_456 rfl rfl ?_
        refine g_iconst X dL_isSo_457 (v := 1) (by decide) ?_
        obtain ⟨o138, h139, hf⟩ := hfb hf
        refine g_Vi X (q0 := 2) (As := [.int 1]) (rest := []) (w1 := (o138.2, (o94.2.2.1, o94.2.2.2))) (liftK_T (m := o94.2.2.1) (v := o94.2.2.2) (c_X6_count (ad := ad) h139)) dL_isSo_458 ml_L_121 yv_X6_count rfl rfl rfl rfl ⟨Nat.le_of_ble_eq_true rfl, Nat.le_of_ble_eq_true rfl⟩ ⟨rfl, rfl⟩ (Nat.le_of_ble_eq_true rfl) ⟨Nat.le_of_ble_eq_true rfl, Nat.le_of_ble_eq_true rfl⟩ ?_
        refine g_aload_n X (i := 1) dL_isSo_461 rfl rfl ?_
        refine g_iconst X dL_isSo_462 (v := 0) (by decide) ?_
        obtain ⟨hb140, hf⟩ := hfg hf
        refine g_iald X (q0 := 93) (f := o94.2.2.1.2 0) dL_isSo_463 rfl hb140 ?_
        refine g_icmp_ne X dL_isSo_464 (tgt := 614) (by decide) hf (fun c141 hf => ?_) (fun c141 hf => ?_)
        · refine g_aload_n X (i := 0) dL_isSo_467 rfl rfl ?_
          refine g_iconst X dL_isSo_468 (v := 2) (by decide) ?_
          obtain ⟨o142, h143, hf⟩ := hfb hf
          refine g_Vi X (q0 := 2) (As := [.int 2]) (rest := []) (w1 := (o142.2, (o94.2.2.1, o94.2.2.2))) (liftK_T (m := o94.2.2.1) (v := o94.2.2.2) (c_X6_count (ad := ad) h143)) dL_isSo_469 ml_L_121 yv_X6_count rfl rfl rfl rfl ⟨Nat.le_of_ble_eq_true rfl, Nat.le_of_ble_eq_true rfl⟩ ⟨rfl, rfl⟩ (Nat.le_of_ble_eq_true rfl) ⟨Nat.le_of_ble_eq_true rfl, Nat.le_of_ble_eq_true rfl⟩ ?_
          refine g_aload_n X (i := 1) dL_isSo_472 rfl rfl ?_
          refine g_iconst X dL_isSo_473 (v := 2) (by decide) ?_
          obtain ⟨hb144, hf⟩ := hfg hf
          refine g_iald X (q0 := 93) (f := o94.2.2.1.2 0) dL_isSo_474 rfl hb144 ?_
          refine g_icmp_ne X dL_isSo_475 (tgt := 614) (by decide) hf (fun c145 hf => ?_) (fun c145 hf => ?_)
          · refine g_aload_n X (i := 0) dL_isSo_478 rfl rfl ?_
            refine g_iconst X dL_isSo_479 (v := 3) (by decide) ?_
            obtain ⟨o146, h147, hf⟩ := hfb hf
            refine g_Vi X (q0 := 2) (As := [.int 3]) (rest := []) (w1 := (o146.2, (o94.2.2.1, o94.2.2.2))) (liftK_T (m := o94.2.2.1) (v := o94.2.2.2) (c_X6_count (ad := ad) h147)) dL_isSo_480 ml_L_121 yv_X6_count rfl rfl rfl rfl ⟨Nat.le_of_ble_eq_true rfl, Nat.le_of_ble_eq_true rfl⟩ ⟨rfl, rfl⟩ (Nat.le_of_ble_eq_true rfl) ⟨Nat.le_of_ble_eq_true rfl, Nat.le_of_ble_eq_true rfl⟩ ?_
            refine g_aload_n X (i := 1) dL_isSo_483 rfl rfl ?_
            refine g_iconst X dL_isSo_484 (v := 3) (by decide) ?_
            obtain ⟨hb148, hf⟩ := hfg hf
            refine g_iald X (q0 := 93) (f := o94.2.2.1.2 0) dL_isSo_485 rfl hb148 ?_
            refine g_icmp_ne X dL_isSo_486 (tgt := 614) (by decide) hf (fun c149 hf => ?_) (fun c149 hf => ?_)
            · refine g_aload_n X (i := 0) dL_isSo_489 rfl rfl ?_
              refine g_iconst X dL_isSo_490 (v := 4) (by decide) ?_
              obtain ⟨o150, h151, hf⟩ := hfb hf
              refine g_Vi X (q0 := 2) (As := [.int 4]) (rest := []) (w1 := (o150.2, (o94.2.2.1, o94.2.2.2))) (liftK_T (m := o94.2.2.1) (v := o94.2.2.2) (c_X6_count (ad := ad) h151)) dL_isSo_491 ml_L_121 yv_X6_count rfl rfl rfl rfl ⟨Nat.le_of_ble_eq_true rfl, Nat.le_of_ble_eq_true rfl⟩ ⟨rfl, rfl⟩ (Nat.le_of_ble_eq_true rfl) ⟨Nat.le_of_ble_eq_true rfl, Nat.le_of_ble_eq_true rfl⟩ ?_
              refine g_aload_n X (i := 1) dL_isSo_494 rfl rfl ?_
              refine g_iconst X dL_isSo_495 (v := 4) (by decide) ?_
              obtain ⟨hb152, hf⟩ := hfg hf
              refine g_iald X (q0 := 93) (f := o94.2.2.1.2 0) dL_isSo_496 rfl hb152 ?_
              refine g_icmp_ne X dL_isSo_497 (tgt := 614) (by decide) hf (fun c153 hf => ?_) (fun c153 hf => ?_)
              · refine g_aload_n X (i := 0) dL_isSo_500 rfl rfl ?_
                refine g_iconst X dL_isSo_501 (v := 5) (by decide) ?_
                obtain ⟨o154, h155, hf⟩ := hfb hf
                refine g_Vi X (q0 := 2) (As := [.int 5]) (rest := []) (w1 := (o154.2, (o94.2.2.1, o94.2.2.2))) (liftK_T (m := o94.2.2.1) (v := o94.2.2.2) (c_X6_count (ad := ad) h155)) dL_isSo_502 ml_L_121 yv_X6_count rfl rfl rfl rfl ⟨Nat.le_of_ble_eq_true rfl, Nat.le_of_ble_eq_true rfl⟩ ⟨rfl, rfl⟩ (Nat.le_of_ble_eq_true rfl) ⟨Nat.le_of_ble_eq_true rfl, Nat.le_of_ble_eq_true rfl⟩ ?_
                refine g_aload_n X (i := 1) dL_isSo_505 rfl rfl ?_
                refine g_iconst X dL_isSo_506 (v := 5) (by decide) ?_
                obtain ⟨hb156, hf⟩ := hfg hf
                refine g_iald X (q0 := 93) (f := o94.2.2.1.2 0) dL_isSo_507 rfl hb156 ?_
                refine g_icmp_ne X dL_isSo_508 (tgt := 614) (by decide) hf (fun c157 hf => ?_) (fun c157 hf => ?_)
                · refine g_aload_n X (i := 0) dL_isSo_511 rfl rfl ?_
                  refine g_bipush X dL_isSo_512 (v := 6) (by decide) ?_
                  obtain ⟨o158, h159, hf⟩ := hfb hf
                  refine g_Vi X (q0 := 2) (As := [.int 6]) (rest := []) (w1 := (o158.2, (o94.2.2.1, o94.2.2.2))) (liftK_T (m := o94.2.2.1) (v := o94.2.2.2) (c_X6_count (ad := ad) h159)) dL_isSo_514 ml_L_121 yv_X6_count rfl rfl rfl rfl ⟨Nat.le_of_ble_eq_true rfl, Nat.le_of_ble_eq_true rfl⟩ ⟨rfl, rfl⟩ (Nat.le_of_ble_eq_true rfl) ⟨Nat.le_of_ble_eq_true rfl, Nat.le_of_ble_eq_true rfl⟩ ?_
                  refine g_aload_n X (i := 1) dL_isSo_517 rfl rfl ?_
                  refine g_bipush X dL_isSo_518 (v := 9) (by decide) ?_
                  obtain ⟨hb160, hf⟩ := hfg hf
                  refine g_iald X (q0 := 93) (f := o94.2.2.1.2 0) dL_isSo_520 rfl hb160 ?_
                  refine g_icmp_ne X dL_isSo_521 (tgt := 614) (by decide) hf (fun c161 hf => ?_) (fun c161 hf => ?_)
                  · refine g_aload_n X (i := 0) dL_isSo_524 rfl rfl ?_
                    refine g_bipush X dL_isSo_525 (v := 7) (by decide) ?_
                    obtain ⟨o162, h163, hf⟩ := hfb hf
                    refine g_Vi X (q0 := 2) (As := [.int 7]) (rest := []) (w1 := (o162.2, (o94.2.2.1, o94.2.2.2))) (liftK_T (m := o94.2.2.1) (v := o94.2.2.2) (c_X6_count (ad := ad) h163)) dL_isSo_527 ml_L_121 yv_X6_count rfl rfl rfl rfl ⟨Nat.le_of_ble_eq_true rfl, Nat.le_of_ble_eq_true rfl⟩ ⟨rfl, rfl⟩ (Nat.le_of_ble_eq_true rfl) ⟨Nat.le_of_ble_eq_true rfl, Nat.le_of_ble_eq_true rfl⟩ ?_
                    refine g_aload_n X (i := 1) dL_isSo_530 rfl rfl ?_
                    refine g_iconst X dL_isSo_531 (v := 0) (by decide) ?_
                    obtain ⟨hb164, hf⟩ := hfg hf
                    refine g_iald X (q0 := 93) (f := o94.2.2.1.2 0) dL_isSo_532 rfl hb164 ?_
                    refine g_iconst X dL_isSo_533 (v := 3) (by decide) ?_
                    obtain ⟨o166, h167, hf⟩ := hfb hf
                    refine g_jn (M := 545) (lo2 := [some (.ref (ad 2)), some (.ref (ad 93)), none, none, none, none, none, none, none, none, none, some (.int o46.1), none, none]) (st2 := [.int o166, .int o162.1]) (w2 := (o162.2, (o94.2.2.1, o94.2.2.2))) ?_ (fun K168 => ?_)
                    · refine g_icmp_ne X dL_isSo_545 (tgt := 614) (by decide) hf (fun c170 hf => ?_) (fun c170 hf => ?_)
                      · refine g_aload_n X (i := 0) dL_isSo_548 rfl rfl ?_
                        refine g_bipush X dL_isSo_549 (v := 8) (by decide) ?_
                        obtain ⟨o171, h172, hf⟩ := hfb hf
                        refine g_Vi X (q0 := 2) (As := [.int 8]) (rest := []) (w1 := (o171.2, (o94.2.2.1, o94.2.2.2))) (liftK_T (m := o94.2.2.1) (v := o94.2.2.2) (c_X6_count (ad := ad) h172)) dL_isSo_551 ml_L_121 yv_X6_count rfl rfl rfl rfl ⟨Nat.le_of_ble_eq_true rfl, Nat.le_of_ble_eq_true rfl⟩ ⟨rfl, rfl⟩ (Nat.le_of_ble_eq_true rfl) ⟨Nat.le_of_ble_eq_true rfl, Nat.le_of_ble_eq_true rfl⟩ ?_
                        refine g_aload_n X (i := 1) dL_isSo_554 rfl rfl ?_
                        refine g_iconst X dL_isSo_555 (v := 2) (by decide) ?_
                        obtain ⟨hb173, hf⟩ := hfg hf
                        refine g_iald X (q0 := 93) (f := o94.2.2.1.2 0) dL_isSo_556 rfl hb173 ?_
                        obtain ⟨o175, h176, hf⟩ := hfb hf
                        refine g_jn (M := 569) (lo2 := [some (.ref (ad 2)), some (.ref (ad 93)), none, none, none, none, none, none, none, none, none, some (.int o46.1), none, none]) (st2 := [.int o175, .int o171.1]) (w2 := (o171.2, (o94.2.2.1, o94.2.2.2))) ?_ (fun K177 => ?_)
                        · refine g_icmp_ne X dL_isSo_569 (tgt := 614) (by decide) hf (fun c179 hf => ?_) (fun c179 hf => ?_)
                          · refine g_aload_n X (i := 0) dL_isSo_572 rfl rfl ?_
                            refine g_bipush X dL_isSo_573 (v := 9) (by decide) ?_
                            obtain ⟨o180, h181, hf⟩ := hfb hf
                            refine g_Vi X (q0 := 2) (As := [.int 9]) (rest := []) (w1 := (o180.2, (o94.2.2.1, o94.2.2.2))) (liftK_T (m := o94.2.2.1) (v := o94.2.2.2) (c_X6_count (ad := ad) h181)) dL_isSo_575 ml_L_121 yv_X6_count rfl rfl rfl rfl ⟨Nat.le_of_ble_eq_true rfl, Nat.le_of_ble_eq_true rfl⟩ ⟨rfl, rfl⟩ (Nat.le_of_ble_eq_true rfl) ⟨Nat.le_of_ble_eq_true rfl, Nat.le_of_ble_eq_true rfl⟩ ?_
                            refine g_aload_n X (i := 1) dL_isSo_578 rfl rfl ?_
                            refine g_bipush X dL_isSo_579 (v := 8) (by decide) ?_
                            obtain ⟨hb182, hf⟩ := hfg hf
                            refine g_iald X (q0 := 93) (f := o94.2.2.1.2 0) dL_isSo_581 rfl hb182 ?_
                            refine g_icmp_ne X dL_isSo_582 (tgt := 614) (by decide) hf (fun c183 hf => ?_) (fun c183 hf => ?_)
                            · refine g_aload_n X (i := 0) dL_isSo_585 rfl rfl ?_
                              refine g_bipush X dL_isSo_586 (v := 11) (by decide) ?_
                              obtain ⟨o184, h185, hf⟩ := hfb hf
                              refine g_Vi X (q0 := 2) (As := [.int 11]) (rest := []) (w1 := (o184.2, (o94.2.2.1, o94.2.2.2))) (liftK_T (m := o94.2.2.1) (v := o94.2.2.2) (c_X6_count (ad := ad) h185)) dL_isSo_588 ml_L_121 yv_X6_count rfl rfl rfl rfl ⟨Nat.le_of_ble_eq_true rfl, Nat.le_of_ble_eq_true rfl⟩ ⟨rfl, rfl⟩ (Nat.le_of_ble_eq_true rfl) ⟨Nat.le_of_ble_eq_true rfl, Nat.le_of_ble_eq_true rfl⟩ ?_
                              refine g_if_ne X dL_isSo_591 (tgt := 614) (by decide) hf (fun c186 hf => ?_) (fun c186 hf => ?_)
                              · refine g_aload_n X (i := 0) dL_isSo_594 rfl rfl ?_
                                refine g_iconst X dL_isSo_595 (v := 3) (by decide) ?_
                                obtain ⟨o187, h188, hf⟩ := hfb hf
                                refine g_Vi X (q0 := 2) (As := [.int 3]) (rest := []) (w1 := (o187.2, (o94.2.2.1, o94.2.2.2))) (liftK_T (m := o94.2.2.1) (v := o94.2.2.2) (c_X6_count (ad := ad) h188)) dL_isSo_596 ml_L_121 yv_X6_count rfl rfl rfl rfl ⟨Nat.le_of_ble_eq_true rfl, Nat.le_of_ble_eq_true rfl⟩ ⟨rfl, rfl⟩ (Nat.le_of_ble_eq_true rfl) ⟨Nat.le_of_ble_eq_true rfl, Nat.le_of_ble_eq_true rfl⟩ ?_
                                refine g_aload_n X (i := 0) dL_isSo_599 rfl rfl ?_
                                refine g_iconst X dL_isSo_600 (v := 4) (by decide) ?_
                                obtain ⟨o189, h190, hf⟩ := hfb hf
                                refine g_Vi X (q0 := 2) (As := [.int 4]) (rest := [.int o187.1]) (w1 := (o189.2, (o94.2.2.1, o94.2.2.2))) (liftK_T (m := o94.2.2.1) (v := o94.2.2.2) (c_X6_count (ad := ad) h190)) dL_isSo_601 ml_L_121 yv_X6_count rfl rfl rfl rfl ⟨Nat.le_of_ble_eq_true rfl, Nat.le_of_ble_eq_true rfl⟩ ⟨rfl, rfl⟩ (Nat.le_of_ble_eq_true rfl) ⟨Nat.le_of_ble_eq_true rfl, Nat.le_of_ble_eq_true rfl⟩ ?_
                                refine g_isub X dL_isSo_604 ?_
                                refine g_iload X dL_isSo_605 rfl ?_
                                refine g_icmp_ne X dL_isSo_607 (tgt := 614) (by decide) hf (fun c191 hf => ?_) (fun c191 hf => ?_)
                                · refine g_iconst X dL_isSo_610 (v := 1) (by decide) ?_
                                  refine g_goto X dL_isSo_611 (tgt := 615) (by decide) ?_
                                  exact g_zretK X hr dL_isSo_615 rfl hf
                                · refine g_iconst X dL_isSo_614 (v := 0) (by decide) ?_
                                  exact g_zretK X hr dL_isSo_615 rfl hf
                              · refine g_iconst X dL_isSo_614 (v := 0) (by decide) ?_
                                exact g_zretK X hr dL_isSo_615 rfl hf
                            · refine g_iconst X dL_isSo_614 (v := 0) (by decide) ?_
                              exact g_zretK X hr dL_isSo_615 rfl hf
                          · refine g_iconst X dL_isSo_614 (v := 0) (by decide) ?_
                            exact g_zretK X hr dL_isSo_615 rfl hf
                        · have hf := h176
                          refine g_if_ne X dL_isSo_557 (tgt := 565) (by decide) hf (fun c174 hf => ?_) (fun c174 hf => ?_)
                          · refine g_bipush X dL_isSo_560 (v := (-14)) (by decide) ?_
                            refine g_goto X dL_isSo_562 (tgt := 569) (by decide) ?_
                            obtain rfl := Option.some.inj hf
                            exact K177
                          · refine g_aload_n X (i := 1) dL_isSo_565 rfl rfl ?_
                            refine g_bipush X dL_isSo_566 (v := 6) (by decide) ?_
                            obtain ⟨hb178, hf⟩ := hfg hf
                            refine g_iald X (q0 := 93) (f := o94.2.2.1.2 0) dL_isSo_568 rfl hb178 ?_
                            obtain rfl := Option.some.inj hf
                            exact K177
                      · refine g_iconst X dL_isSo_614 (v := 0) (by decide) ?_
                        exact g_zretK X hr dL_isSo_615 rfl hf
                    · have hf := h167
                      refine g_icmp_ne X dL_isSo_534 (tgt := 543) (by decide) hf (fun c165 hf => ?_) (fun c165 hf => ?_)
                      · refine g_aload_n X (i := 1) dL_isSo_537 rfl rfl ?_
                        refine g_iconst X dL_isSo_538 (v := 1) (by decide) ?_
                        obtain ⟨hb169, hf⟩ := hfg hf
                        refine g_iald X (q0 := 93) (f := o94.2.2.1.2 0) dL_isSo_539 rfl hb169 ?_
                        refine g_goto X dL_isSo_540 (tgt := 545) (by decide) ?_
                        obtain rfl := Option.some.inj hf
                        refine g_sub (losub (lo' := [some (.ref (ad 2)), some (.ref (ad 93)), none, none, none, none, none, none, none, none, none, some (.int o46.1), none, none]) ⟨rfl, rfl, rfl, trivial⟩) ?_
                        exact K168
                      · refine g_bipush X dL_isSo_543 (v := (-14)) (by decide) ?_
                        obtain rfl := Option.some.inj hf
                        refine g_sub (losub (lo' := [some (.ref (ad 2)), some (.ref (ad 93)), none, none, none, none, none, none, none, none, none, some (.int o46.1), none, none]) ⟨rfl, rfl, rfl, trivial⟩) ?_
                        exact K168
                  · refine g_iconst X dL_isSo_614 (v := 0) (by decide) ?_
                    exact g_zretK X hr dL_isSo_615 rfl hf
                · refine g_iconst X dL_isSo_614 (v := 0) (by decide) ?_
                  exact g_zretK X hr dL_isSo_615 rfl hf
              · refine g_iconst X dL_isSo_614 (v := 0) (by decide) ?_
                exact g_zretK X hr dL_isSo_615 rfl hf
            · refine g_iconst X dL_isSo_614 (v := 0) (by decide) ?_
              exact g_zretK X hr dL_isSo_615 rfl hf
          · refine g_iconst X dL_isSo_614 (v := 0) (by decide) ?_
            exact g_zretK X hr dL_isSo_615 rfl hf
        · refine g_iconst X dL_isSo_614 (v := 0) (by decide) ?_
          exact g_zretK X hr dL_isSo_615 rfl hf
      · refine g_iconst X dL_isSo_614 (v := 0) (by decide) ?_
        exact g_zretK X hr dL_isSo_615 rfl hf
  · have hf := h95
    refine g_if_eq X dL_isSo_350 (tgt := 438) (by decide) hf (fun c93 hf => ?_) (fun c93 hf => ?_)
    · refine g_iconst X dL_isSo_438 (v := 0) (by decide) ?_
      obtain rfl := Option.some.inj hf
      refine g_sub (losub (lo' := [some (.ref (ad 2)), some (.ref (ad 93)), none, none, none, none, none, none, none, none, none, some (.int o46.1), none, none]) ⟨rfl, rfl, rfl, trivial⟩) ?_
      exact K96
    · refine g_aload X dL_isSo_353 rfl ?_
      refine g_iconst X dL_isSo_355 (v := 2) (by decide) ?_
      obtain ⟨hb97, hf⟩ := hfg hf
      refine g_iald X (q0 := 101) (f := o91.2.2.2) dL_isSo_356 rfl hb97 ?_
      refine g_aload X dL_isSo_357 rfl ?_
      refine g_iconst X dL_isSo_359 (v := 0) (by decide) ?_
      obtain ⟨hb98, hf⟩ := hfg hf
      refine g_iald X (q0 := 101) (f := o91.2.2.2) dL_isSo_360 rfl hb98 ?_
      refine g_iconst X dL_isSo_361 (v := (-1)) (by decide) ?_
      refine g_ixor X dL_isSo_362 ?_
      refine g_iand X dL_isSo_363 ?_
      refine g_if_ne X dL_isSo_364 (tgt := 438) (by decide) hf (fun c99 hf => ?_) (fun c99 hf => ?_)
      · refine g_aload_n X (i := 1) dL_isSo_367 rfl rfl ?_
        refine g_iconst X dL_isSo_368 (v := 0) (by decide) ?_
        obtain ⟨hb100, hf⟩ := hfg hf
        refine g_iald X (q0 := 93) (f := o91.2.2.1.2 0) dL_isSo_369 rfl hb100 ?_
        refine g_if_gt X dL_isSo_370 (tgt := 387) (by decide) hf (fun c101 hf => ?_) (fun c101 hf => ?_)
        · refine g_aload_n X (i := 0) dL_isSo_387 rfl rfl ?_
          refine g_aload_n X (i := 1) dL_isSo_388 rfl rfl ?_
          refine g_bipush X dL_isSo_389 (v := 10) (by decide) ?_
          obtain ⟨hb102, hf⟩ := hfg hf
          refine g_iald X (q0 := 93) (f := o91.2.2.1.2 0) dL_isSo_391 rfl hb102 ?_
          obtain ⟨o103, h104, hf⟩ := hfb hf
          refine g_Vi X (q0 := 2) (As := [.int (o91.2.2.1.2 0 (10 : Int32).toNatClampNeg)]) (rest := []) (w1 := (o103.2, (o91.2.2.1, o91.2.2.2))) (liftK_T (m := o91.2.2.1) (v := o91.2.2.2) (c_X6_grey (ad := ad) h104)) dL_isSo_392 ml_L_118 yv_X6_grey rfl rfl rfl rfl ⟨Nat.le_of_ble_eq_true rfl, Nat.le_of_ble_eq_true rfl⟩ ⟨rfl, rfl⟩ (Nat.le_of_ble_eq_true rfl) ⟨Nat.le_of_ble_eq_true rfl, Nat.le_of_ble_eq_true rfl⟩ ?_
          refine g_bipush X dL_isSo_395 (v := (-14)) (by decide) ?_
          refine g_icmp_ne X dL_isSo_397 (tgt := 438) (by decide) hf (fun c105 hf => ?_) (fun c105 hf => ?_)
          · refine g_aload_n X (i := 0) dL_isSo_400 rfl rfl ?_
            refine g_iconst X dL_isSo_401 (v := (-1)) (by decide) ?_
            obtain ⟨o106, h107, hf⟩ := hfb hf
            refine g_Vi X (q0 := 2) (As := [.int (-1)]) (rest := []) (w1 := (o106.2, (o91.2.2.1, o91.2.2.2))) (liftK_T (m := o91.2.2.1) (v := o91.2.2.2) (c_X6_grey (ad := ad) h107)) dL_isSo_402 ml_L_118 yv_X6_grey rfl rfl rfl rfl ⟨Nat.le_of_ble_eq_true rfl, Nat.le_of_ble_eq_true rfl⟩ ⟨rfl, rfl⟩ (Nat.le_of_ble_eq_true rfl) ⟨Nat.le_of_ble_eq_true rfl, Nat.le_of_ble_eq_true rfl⟩ ?_
            refine g_bipush X dL_isSo_405 (v := (-11)) (by decide) ?_
            refine g_icmp_ne X dL_isSo_407 (tgt := 438) (by decide) hf (fun c108 hf => ?_) (fun c108 hf => ?_)
            · refine g_aload_n X (i := 0) dL_isSo_410 rfl rfl ?_
              refine g_bipush X dL_isSo_411 (v := 7) (by decide) ?_
              obtain ⟨o109, h110, hf⟩ := hfb hf
              refine g_Vi X (q0 := 2) (As := [.int 7]) (rest := []) (w1 := (o109.2, (o91.2.2.1, o91.2.2.2))) (liftK_T (m := o91.2.2.1) (v := o91.2.2.2) (c_X6_objects (ad := ad) h110)) dL_isSo_413 ml_L_112 yv_X6_objects rfl rfl rfl rfl ⟨Nat.le_of_ble_eq_true rfl, Nat.le_of_ble_eq_true rfl⟩ ⟨rfl, rfl⟩ (Nat.le_of_ble_eq_true rfl) ⟨Nat.le_of_ble_eq_true rfl, Nat.le_of_ble_eq_true rfl⟩ ?_
              refine g_aload_n X (i := 1) dL_isSo_416 rfl rfl ?_
              refine g_bipush X dL_isSo_417 (v := 7) (by decide) ?_
              obtain ⟨hb111, hf⟩ := hfg hf
              refine g_iald X (q0 := 93) (f := o91.2.2.1.2 0) dL_isSo_419 rfl hb111 ?_
              refine g_icmp_ne X dL_isSo_420 (tgt := 438) (by decide) hf (fun c112 hf => ?_) (fun c112 hf => ?_)
              · refine g_aload_n X (i := 0) dL_isSo_423 rfl rfl ?_
                refine g_bipush X dL_isSo_424 (v := 8) (by decide) ?_
                obtain ⟨o113, h114, hf⟩ := hfb hf
                refine g_Vi X (q0 := 2) (As := [.int 8]) (rest := []) (w1 := (o113.2, (o91.2.2.1, o91.2.2.2))) (liftK_T (m := o91.2.2.1) (v := o91.2.2.2) (c_X6_objects (ad := ad) h114)) dL_isSo_426 ml_L_112 yv_X6_objects rfl rfl rfl rfl ⟨Nat.le_of_ble_eq_true rfl, Nat.le_of_ble_eq_true rfl⟩ ⟨rfl, rfl⟩ (Nat.le_of_ble_eq_true rfl) ⟨Nat.le_of_ble_eq_true rfl, Nat.le_of_ble_eq_true rfl⟩ ?_
                refine g_bipush X dL_isSo_429 (v := (-11)) (by decide) ?_
                refine g_icmp_ne X dL_isSo_431 (tgt := 438) (by decide) hf (fun c115 hf => ?_) (fun c115 hf => ?_)
                · refine g_iconst X dL_isSo_434 (v := 1) (by decide) ?_
                  refine g_goto X dL_isSo_435 (tgt := 439) (by decide) ?_
                  obtain rfl := Option.some.inj hf
                  refine g_sub (losub (lo' := [some (.ref (ad 2)), some (.ref (ad 93)), none, none, none, none, none, none, none, none, none, some (.int o46.1), none, none]) ⟨rfl, rfl, rfl, trivial⟩) ?_
                  exact K96
                · refine g_iconst X dL_isSo_438 (v := 0) (by decide) ?_
                  obtain rfl := Option.some.inj hf
                  refine g_sub (losub (lo' := [some (.ref (ad 2)), some (.ref (ad 93)), none, none, none, none, none, none, none, none, none, some (.int o46.1), none, none]) ⟨rfl, rfl, rfl, trivial⟩) ?_
                  exact K96
              · refine g_iconst X dL_isSo_438 (v := 0) (by decide) ?_
                obtain rfl := Option.some.inj hf
                refine g_sub (losub (lo' := [some (.ref (ad 2)), some (.ref (ad 93)), none, none, none, none, none, none, none, none, none, some (.int o46.1), none, none]) ⟨rfl, rfl, rfl, trivial⟩) ?_
                exact K96
            · refine g_iconst X dL_isSo_438 (v := 0) (by decide) ?_
              obtain rfl := Option.some.inj hf
              refine g_sub (losub (lo' := [some (.ref (ad 2)), some (.ref (ad 93)), none, none, none, none, none, none, none, none, none, some (.int o46.1), none, none]) ⟨rfl, rfl, rfl, trivial⟩) ?_
              exact K96
          · refine g_iconst X dL_isSo_438 (v := 0) (by decide) ?_
            obtain rfl := Option.some.inj hf
            refine g_sub (losub (lo' := [some (.ref (ad 2)), some (.ref (ad 93)), none, none, none, none, none, none, none, none, none, some (.int o46.1), none, none]) ⟨rfl, rfl, rfl, trivial⟩) ?_
            exact K96
        · refine g_aload X dL_isSo_373 rfl ?_
          refine g_iconst X dL_isSo_375 (v := 4) (by decide) ?_
          obtain ⟨hb116, hf⟩ := hfg hf
          refine g_iald X (q0 := 101) (f := o91.2.2.2) dL_isSo_376 rfl hb116 ?_
          refine g_if_ne X dL_isSo_377 (tgt := 438) (by decide) hf (fun c117 hf => ?_) (fun c117 hf => ?_)
          · refine g_aload X dL_isSo_380 rfl ?_
            refine g_iconst X dL_isSo_382 (v := 5) (by decide) ?_
            obtain ⟨hb118, hf⟩ := hfg hf
            refine g_iald X (q0 := 101) (f := o91.2.2.2) dL_isSo_383 rfl hb118 ?_
            refine g_if_ne X dL_isSo_384 (tgt := 438) (by decide) hf (fun c119 hf => ?_) (fun c119 hf => ?_)
            · refine g_aload_n X (i := 0) dL_isSo_387 rfl rfl ?_
              refine g_aload_n X (i := 1) dL_isSo_388 rfl rfl ?_
              refine g_bipush X dL_isSo_389 (v := 10) (by decide) ?_
              obtain ⟨hb120, hf⟩ := hfg hf
              refine g_iald X (q0 := 93) (f := o91.2.2.1.2 0) dL_isSo_391 rfl hb120 ?_
              obtain ⟨o121, h122, hf⟩ := hfb hf
              refine g_Vi X (q0 := 2) (As := [.int (o91.2.2.1.2 0 (10 : Int32).toNatClampNeg)]) (rest := []) (w1 := (o121.2, (o91.2.2.1, o91.2.2.2))) (liftK_T (m := o91.2.2.1) (v := o91.2.2.2) (c_X6_grey (ad := ad) h122)) dL_isSo_392 ml_L_118 yv_X6_grey rfl rfl rfl rfl ⟨Nat.le_of_ble_eq_true rfl, Nat.le_of_ble_eq_true rfl⟩ ⟨rfl, rfl⟩ (Nat.le_of_ble_eq_true rfl) ⟨Nat.le_of_ble_eq_true rfl, Nat.le_of_ble_eq_true rfl⟩ ?_
              refine g_bipush X dL_isSo_395 (v := (-14)) (by decide) ?_
              refine g_icmp_ne X dL_isSo_397 (tgt := 438) (by decide) hf (fun c123 hf => ?_) (fun c123 hf => ?_)
              · refine g_aload_n X (i := 0) dL_isSo_400 rfl rfl ?_
                refine g_iconst X dL_isSo_401 (v := (-1)) (by decide) ?_
                obtain ⟨o124, h125, hf⟩ := hfb hf
                refine g_Vi X (q0 := 2) (As := [.int (-1)]) (rest := []) (w1 := (o124.2, (o91.2.2.1, o91.2.2.2))) (liftK_T (m := o91.2.2.1) (v := o91.2.2.2) (c_X6_grey (ad := ad) h125)) dL_isSo_402 ml_L_118 yv_X6_grey rfl rfl rfl rfl ⟨Nat.le_of_ble_eq_true rfl, Nat.le_of_ble_eq_true rfl⟩ ⟨rfl, rfl⟩ (Nat.le_of_ble_eq_true rfl) ⟨Nat.le_of_ble_eq_true rfl, Nat.le_of_ble_eq_true rfl⟩ ?_
                refine g_bipush X dL_isSo_405 (v := (-11)) (by decide) ?_
                refine g_icmp_ne X dL_isSo_407 (tgt := 438) (by decide) hf (fun c126 hf => ?_) (fun c126 hf => ?_)
                · refine g_aload_n X (i := 0) dL_isSo_410 rfl rfl ?_
                  refine g_bipush X dL_isSo_411 (v := 7) (by decide) ?_
                  obtain ⟨o127, h128, hf⟩ := hfb hf
                  refine g_Vi X (q0 := 2) (As := [.int 7]) (rest := []) (w1 := (o127.2, (o91.2.2.1, o91.2.2.2))) (liftK_T (m := o91.2.2.1) (v := o91.2.2.2) (c_X6_objects (ad := ad) h128)) dL_isSo_413 ml_L_112 yv_X6_objects rfl rfl rfl rfl ⟨Nat.le_of_ble_eq_true rfl, Nat.le_of_ble_eq_true rfl⟩ ⟨rfl, rfl⟩ (Nat.le_of_ble_eq_true rfl) ⟨Nat.le_of_ble_eq_true rfl, Nat.le_of_ble_eq_true rfl⟩ ?_
                  refine g_aload_n X (i := 1) dL_isSo_416 rfl rfl ?_
                  refine g_bipush X dL_isSo_417 (v := 7) (by decide) ?_
                  obtain ⟨hb129, hf⟩ := hfg hf
                  refine g_iald X (q0 := 93) (f := o91.2.2.1.2 0) dL_isSo_419 rfl hb129 ?_
                  refine g_icmp_ne X dL_isSo_420 (tgt := 438) (by decide) hf (fun c130 hf => ?_) (fun c130 hf => ?_)
                  · refine g_aload_n X (i := 0) dL_isSo_423 rfl rfl ?_
                    refine g_bipush X dL_isSo_424 (v := 8) (by decide) ?_
                    obtain ⟨o131, h132, hf⟩ := hfb hf
                    refine g_Vi X (q0 := 2) (As := [.int 8]) (rest := []) (w1 := (o131.2, (o91.2.2.1, o91.2.2.2))) (liftK_T (m := o91.2.2.1) (v := o91.2.2.2) (c_X6_objects (ad := ad) h132)) dL_isSo_426 ml_L_112 yv_X6_objects rfl rfl rfl rfl ⟨Nat.le_of_ble_eq_true rfl, Nat.le_of_ble_eq_true rfl⟩ ⟨rfl, rfl⟩ (Nat.le_of_ble_eq_true rfl) ⟨Nat.le_of_ble_eq_true rfl, Nat.le_of_ble_eq_true rfl⟩ ?_
                    refine g_bipush X dL_isSo_429 (v := (-11)) (by decide) ?_
                    refine g_icmp_ne X dL_isSo_431 (tgt := 438) (by decide) hf (fun c133 hf => ?_) (fun c133 hf => ?_)
                    · refine g_iconst X dL_isSo_434 (v := 1) (by decide) ?_
                      refine g_goto X dL_isSo_435 (tgt := 439) (by decide) ?_
                      obtain rfl := Option.some.inj hf
                      refine g_sub (losub (lo' := [some (.ref (ad 2)), some (.ref (ad 93)), none, none, none, none, none, none, none, none, none, some (.int o46.1), none, none]) ⟨rfl, rfl, rfl, trivial⟩) ?_
                      exact K96
                    · refine g_iconst X dL_isSo_438 (v := 0) (by decide) ?_
                      obtain rfl := Option.some.inj hf
                      refine g_sub (losub (lo' := [some (.ref (ad 2)), some (.ref (ad 93)), none, none, none, none, none, none, none, none, none, some (.int o46.1), none, none]) ⟨rfl, rfl, rfl, trivial⟩) ?_
                      exact K96
                  · refine g_iconst X dL_isSo_438 (v := 0) (by decide) ?_
                    obtain rfl := Option.some.inj hf
                    refine g_sub (losub (lo' := [some (.ref (ad 2)), some (.ref (ad 93)), none, none, none, none, none, none, none, none, none, some (.int o46.1), none, none]) ⟨rfl, rfl, rfl, trivial⟩) ?_
                    exact K96
                · refine g_iconst X dL_isSo_438 (v := 0) (by decide) ?_
                  obtain rfl := Option.some.inj hf
                  refine g_sub (losub (lo' := [some (.ref (ad 2)), some (.ref (ad 93)), none, none, none, none, none, none, none, none, none, some (.int o46.1), none, none]) ⟨rfl, rfl, rfl, trivial⟩) ?_
                  exact K96
              · refine g_iconst X dL_isSo_438 (v := 0) (by decide) ?_
                obtain rfl := Option.some.inj hf
                refine g_sub (losub (lo' := [some (.ref (ad 2)), some (.ref (ad 93)), none, none, none, none, none, none, none, none, none, some (.int o46.1), none, none]) ⟨rfl, rfl, rfl, trivial⟩) ?_
                exact K96
            · refine g_iconst X dL_isSo_438 (v := 0) (by decide) ?_
              obtain rfl := Option.some.inj hf
              refine g_sub (losub (lo' := [some (.ref (ad 2)), some (.ref (ad 93)), none, none, none, none, none, none, none, none, none, some (.int o46.1), none, none]) ⟨rfl, rfl, rfl, trivial⟩) ?_
              exact K96
          · refine g_iconst X dL_isSo_438 (v := 0) (by decide) ?_
            obtain rfl := Option.some.inj hf
            refine g_sub (losub (lo' := [some (.ref (ad 2)), some (.ref (ad 93)), none, none, none, none, none, none, none, none, none, some (.int o46.1), none, none]) ⟨rfl, rfl, rfl, trivial⟩) ?_
            exact K96
      · refine g_iconst X dL_isSo_438 (v := 0) (by decide) ?_
        obtain rfl := Option.some.inj hf
        refine g_sub (losub (lo' := [some (.ref (ad 2)), some (.ref (ad 93)), none, none, none, none, none, none, none, none, none, some (.int o46.1), none, none]) ⟨rfl, rfl, rfl, trivial⟩) ?_
        exact K96
