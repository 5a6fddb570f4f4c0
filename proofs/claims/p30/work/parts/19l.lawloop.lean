theorem dL_law_0 : decode cL_law 0 = .ok (.new 40, 3) := by decide +kernel
theorem dL_law_3 : decode cL_law 3 = .ok (.dup, 1) := by decide +kernel
theorem dL_law_4 : decode cL_law 4 = .ok (.invokespecial 124, 3) := by decide +kernel
theorem dL_law_7 : decode cL_law 7 = .ok (.astore_n 1, 1) := by decide +kernel
theorem dL_law_8 : decode cL_law 8 = .ok (.bipush 11, 2) := by decide +kernel
theorem dL_law_10 : decode cL_law 10 = .ok (.newarray .int, 2) := by decide +kernel
theorem dL_law_12 : decode cL_law 12 = .ok (.astore_n 2, 1) := by decide +kernel
theorem dL_law_13 : decode cL_law 13 = .ok (.bipush 24, 2) := by decide +kernel
theorem dL_law_15 : decode cL_law 15 = .ok (.newarray .int, 2) := by decide +kernel
theorem dL_law_17 : decode cL_law 17 = .ok (.astore_n 3, 1) := by decide +kernel
theorem dL_law_18 : decode cL_law 18 = .ok (.bipush 24, 2) := by decide +kernel
theorem dL_law_20 : decode cL_law 20 = .ok (.newarray .int, 2) := by decide +kernel
theorem dL_law_22 : decode cL_law 22 = .ok (.astore 4, 2) := by decide +kernel
theorem dL_law_24 : decode cL_law 24 = .ok (.bipush 24, 2) := by decide +kernel
theorem dL_law_26 : decode cL_law 26 = .ok (.newarray .int, 2) := by decide +kernel
theorem dL_law_28 : decode cL_law 28 = .ok (.astore 5, 2) := by decide +kernel
theorem dL_law_30 : decode cL_law 30 = .ok (.bipush 24, 2) := by decide +kernel
theorem dL_law_32 : decode cL_law 32 = .ok (.newarray .int, 2) := by decide +kernel
theorem dL_law_34 : decode cL_law 34 = .ok (.astore 6, 2) := by decide +kernel
theorem dL_law_36 : decode cL_law 36 = .ok (.bipush 24, 2) := by decide +kernel
theorem dL_law_38 : decode cL_law 38 = .ok (.newarray .int, 2) := by decide +kernel
theorem dL_law_40 : decode cL_law 40 = .ok (.astore 7, 2) := by decide +kernel
theorem dL_law_42 : decode cL_law 42 = .ok (.bipush 24, 2) := by decide +kernel
theorem dL_law_44 : decode cL_law 44 = .ok (.newarray .int, 2) := by decide +kernel
theorem dL_law_46 : decode cL_law 46 = .ok (.astore 8, 2) := by decide +kernel
theorem dL_law_48 : decode cL_law 48 = .ok (.bipush 8, 2) := by decide +kernel
theorem dL_law_50 : decode cL_law 50 = .ok (.newarray .int, 2) := by decide +kernel
theorem dL_law_52 : decode cL_law 52 = .ok (.astore 9, 2) := by decide +kernel
theorem dL_law_54 : decode cL_law 54 = .ok (.aload_n 2, 1) := by decide +kernel
theorem dL_law_55 : decode cL_law 55 = .ok (.bipush 8, 2) := by decide +kernel
theorem dL_law_57 : decode cL_law 57 = .ok (.iconst 1, 1) := by decide +kernel
theorem dL_law_58 : decode cL_law 58 = .ok (.iastore, 1) := by decide +kernel
theorem dL_law_59 : decode cL_law 59 = .ok (.iconst 0, 1) := by decide +kernel
theorem dL_law_60 : decode cL_law 60 = .ok (.istore 10, 2) := by decide +kernel
theorem dL_law_62 : decode cL_law 62 = .ok (.iload 10, 2) := by decide +kernel
theorem dL_law_64 : decode cL_law 64 = .ok (.bipush 24, 2) := by decide +kernel
theorem dL_law_66 : decode cL_law 66 = .ok (.if_icmp .ge 24, 3) := by decide +kernel
theorem dL_law_69 : decode cL_law 69 = .ok (.aload 4, 2) := by decide +kernel
theorem dL_law_71 : decode cL_law 71 = .ok (.iload 10, 2) := by decide +kernel
theorem dL_law_73 : decode cL_law 73 = .ok (.iconst (-1), 1) := by decide +kernel
theorem dL_law_74 : decode cL_law 74 = .ok (.iastore, 1) := by decide +kernel
theorem dL_law_75 : decode cL_law 75 = .ok (.aload 9, 2) := by decide +kernel
theorem dL_law_77 : decode cL_law 77 = .ok (.iload 10, 2) := by decide +kernel
theorem dL_law_79 : decode cL_law 79 = .ok (.bipush 8, 2) := by decide +kernel
theorem dL_law_81 : decode cL_law 81 = .ok (.irem, 1) := by decide +kernel
theorem dL_law_82 : decode cL_law 82 = .ok (.iconst (-1), 1) := by decide +kernel
theorem dL_law_83 : decode cL_law 83 = .ok (.iastore, 1) := by decide +kernel
theorem dL_law_84 : decode cL_law 84 = .ok (.iinc 10 1, 3) := by decide +kernel
theorem dL_law_87 : decode cL_law 87 = .ok (.goto (-25), 3) := by decide +kernel
theorem dL_law_90 : decode cL_law 90 = .ok (.aload_n 1, 1) := by decide +kernel
theorem dL_law_91 : decode cL_law 91 = .ok (.aload_n 2, 1) := by decide +kernel
theorem dL_law_92 : decode cL_law 92 = .ok (.aload_n 3, 1) := by decide +kernel
theorem dL_law_93 : decode cL_law 93 = .ok (.aload 4, 2) := by decide +kernel
theorem dL_law_95 : decode cL_law 95 = .ok (.aload 5, 2) := by decide +kernel
theorem dL_law_97 : decode cL_law 97 = .ok (.aload 6, 2) := by decide +kernel
theorem dL_law_99 : decode cL_law 99 = .ok (.aload 7, 2) := by decide +kernel
theorem dL_law_101 : decode cL_law 101 = .ok (.aload 8, 2) := by decide +kernel
theorem dL_law_103 : decode cL_law 103 = .ok (.aload 9, 2) := by decide +kernel
theorem dL_law_105 : decode cL_law 105 = .ok (.invokestatic 125, 3) := by decide +kernel
theorem dL_law_108 : decode cL_law 108 = .ok (.istore 10, 2) := by decide +kernel
theorem dL_law_110 : decode cL_law 110 = .ok (.bipush 20, 2) := by decide +kernel
theorem dL_law_112 : decode cL_law 112 = .ok (.aload_n 0, 1) := by decide +kernel
theorem dL_law_113 : decode cL_law 113 = .ok (.iconst 0, 1) := by decide +kernel
theorem dL_law_114 : decode cL_law 114 = .ok (.invokestatic 129, 3) := by decide +kernel
theorem dL_law_117 : decode cL_law 117 = .ok (.bipush 70, 2) := by decide +kernel
theorem dL_law_119 : decode cL_law 119 = .ok (.invokestatic 92, 3) := by decide +kernel
theorem dL_law_122 : decode cL_law 122 = .ok (.iadd, 1) := by decide +kernel
theorem dL_law_123 : decode cL_law 123 = .ok (.istore 11, 2) := by decide +kernel
theorem dL_law_125 : decode cL_law 125 = .ok (.iconst 0, 1) := by decide +kernel
theorem dL_law_126 : decode cL_law 126 = .ok (.istore 12, 2) := by decide +kernel
theorem dL_law_128 : decode cL_law 128 = .ok (.iload 12, 2) := by decide +kernel
theorem dL_law_130 : decode cL_law 130 = .ok (.iload 11, 2) := by decide +kernel
theorem dL_law_132 : decode cL_law 132 = .ok (.if_icmp .ge 78, 3) := by decide +kernel
theorem dL_law_135 : decode cL_law 135 = .ok (.iload 10, 2) := by decide +kernel
theorem dL_law_137 : decode cL_law 137 = .ok (.ifCond .eq 73, 3) := by decide +kernel
theorem dL_law_140 : decode cL_law 140 = .ok (.aload_n 1, 1) := by decide +kernel
theorem dL_law_141 : decode cL_law 141 = .ok (.aload_n 2, 1) := by decide +kernel
theorem dL_law_142 : decode cL_law 142 = .ok (.aload_n 3, 1) := by decide +kernel
theorem dL_law_143 : decode cL_law 143 = .ok (.aload 4, 2) := by decide +kernel
theorem dL_law_145 : decode cL_law 145 = .ok (.aload 5, 2) := by decide +kernel
theorem dL_law_147 : decode cL_law 147 = .ok (.aload 6, 2) := by decide +kernel
theorem dL_law_149 : decode cL_law 149 = .ok (.aload 7, 2) := by decide +kernel
theorem dL_law_151 : decode cL_law 151 = .ok (.aload 8, 2) := by decide +kernel
theorem dL_law_153 : decode cL_law 153 = .ok (.aload 9, 2) := by decide +kernel
theorem dL_law_155 : decode cL_law 155 = .ok (.aload_n 0, 1) := by decide +kernel
theorem dL_law_156 : decode cL_law 156 = .ok (.iconst 1, 1) := by decide +kernel
theorem dL_law_157 : decode cL_law 157 = .ok (.iload 12, 2) := by decide +kernel
theorem dL_law_159 : decode cL_law 159 = .ok (.iadd, 1) := by decide +kernel
theorem dL_law_160 : decode cL_law 160 = .ok (.invokestatic 129, 3) := by decide +kernel
theorem dL_law_163 : decode cL_law 163 = .ok (.sipush 7919, 3) := by decide +kernel
theorem dL_law_166 : decode cL_law 166 = .ok (.iload 12, 2) := by decide +kernel
theorem dL_law_168 : decode cL_law 168 = .ok (.imul, 1) := by decide +kernel
theorem dL_law_169 : decode cL_law 169 = .ok (.ixor, 1) := by decide +kernel
theorem dL_law_170 : decode cL_law 170 = .ok (.invokestatic 132, 3) := by decide +kernel
theorem dL_law_173 : decode cL_law 173 = .ok (.ifCond .eq 28, 3) := by decide +kernel
theorem dL_law_176 : decode cL_law 176 = .ok (.aload_n 1, 1) := by decide +kernel
theorem dL_law_177 : decode cL_law 177 = .ok (.aload_n 2, 1) := by decide +kernel
theorem dL_law_178 : decode cL_law 178 = .ok (.aload_n 3, 1) := by decide +kernel
theorem dL_law_179 : decode cL_law 179 = .ok (.aload 4, 2) := by decide +kernel
theorem dL_law_181 : decode cL_law 181 = .ok (.aload 5, 2) := by decide +kernel
theorem dL_law_183 : decode cL_law 183 = .ok (.aload 6, 2) := by decide +kernel
theorem dL_law_185 : decode cL_law 185 = .ok (.aload 7, 2) := by decide +kernel
theorem dL_law_187 : decode cL_law 187 = .ok (.aload 8, 2) := by decide +kernel
theorem dL_law_189 : decode cL_law 189 = .ok (.aload 9, 2) := by decide +kernel
theorem dL_law_191 : decode cL_law 191 = .ok (.invokestatic 125, 3) := by decide +kernel
theorem dL_law_194 : decode cL_law 194 = .ok (.ifCond .eq 7, 3) := by decide +kernel
theorem dL_law_197 : decode cL_law 197 = .ok (.iconst 1, 1) := by decide +kernel
theorem dL_law_198 : decode cL_law 198 = .ok (.goto 4, 3) := by decide +kernel
theorem dL_law_201 : decode cL_law 201 = .ok (.iconst 0, 1) := by decide +kernel
theorem dL_law_202 : decode cL_law 202 = .ok (.istore 10, 2) := by decide +kernel
theorem dL_law_204 : decode cL_law 204 = .ok (.iinc 12 1, 3) := by decide +kernel
theorem dL_law_207 : decode cL_law 207 = .ok (.goto (-79), 3) := by decide +kernel
theorem dL_law_210 : decode cL_law 210 = .ok (.iload 10, 2) := by decide +kernel
theorem dL_law_212 : decode cL_law 212 = .ok (.ifCond .eq 40, 3) := by decide +kernel
theorem dL_law_215 : decode cL_law 215 = .ok (.aload_n 1, 1) := by decide +kernel
theorem dL_law_216 : decode cL_law 216 = .ok (.bipush 13, 2) := by decide +kernel
theorem dL_law_218 : decode cL_law 218 = .ok (.invokevirtual 121, 3) := by decide +kernel
theorem dL_law_221 : decode cL_law 221 = .ok (.bipush (-11), 2) := by decide +kernel
theorem dL_law_223 : decode cL_law 223 = .ok (.if_icmp .ne 29, 3) := by decide +kernel
theorem dL_law_226 : decode cL_law 226 = .ok (.aload_n 1, 1) := by decide +kernel
theorem dL_law_227 : decode cL_law 227 = .ok (.iconst 2, 1) := by decide +kernel
theorem dL_law_228 : decode cL_law 228 = .ok (.iconst 0, 1) := by decide +kernel
theorem dL_law_229 : decode cL_law 229 = .ok (.invokevirtual 115, 3) := by decide +kernel
theorem dL_law_232 : decode cL_law 232 = .ok (.bipush (-11), 2) := by decide +kernel
theorem dL_law_234 : decode cL_law 234 = .ok (.if_icmp .ne 18, 3) := by decide +kernel
theorem dL_law_237 : decode cL_law 237 = .ok (.aload_n 1, 1) := by decide +kernel
theorem dL_law_238 : decode cL_law 238 = .ok (.iconst 0, 1) := by decide +kernel
theorem dL_law_239 : decode cL_law 239 = .ok (.iconst 4, 1) := by decide +kernel
theorem dL_law_240 : decode cL_law 240 = .ok (.invokevirtual 115, 3) := by decide +kernel
theorem dL_law_243 : decode cL_law 243 = .ok (.bipush (-11), 2) := by decide +kernel
theorem dL_law_245 : decode cL_law 245 = .ok (.if_icmp .ne 7, 3) := by decide +kernel
theorem dL_law_248 : decode cL_law 248 = .ok (.iconst 1, 1) := by decide +kernel
theorem dL_law_249 : decode cL_law 249 = .ok (.goto 4, 3) := by decide +kernel
theorem dL_law_252 : decode cL_law 252 = .ok (.iconst 0, 1) := by decide +kernel
theorem dL_law_253 : decode cL_law 253 = .ok (.ireturn, 1) := by decide +kernel
def f_L_law_L128 (L : Nat) (xs : Nat → Int32) : Nat → Int32 → Int32 → Int32 → JT → Option (Int32 × JT)
  | 0, _, _, _, _ => none
  | n + 1, x10, x11, x12, w => (if x12 < x11 then (if x10 = 0 then (if x10 = 0 then some (0, w) else (f_X6_count 13 w.1).bind fun o4 => (if o4.1 = (-11) then (f_X6_refers 2 0 o4.2).bind fun o7 => (if o7.1 = (-11) then (f_X6_refers 0 4 o7.2).bind fun o10 => (if o10.1 = (-11) then some (1, (o10.2, w.2)) else some (0, (o10.2, w.2))) else some (0, (o7.2, w.2))) else some (0, (o4.2, w.2)))) else (f_cell L xs (1 + x12)).bind fun o13 => (f_L_acts (o13 ^^^ (7919 * x12)) w).bind fun o15 => (if o15.1 = 0 then some ((0 : Int32), o15.2) else (f_L_isSo o15.2).bind fun o21 => (if o21.1 = 0 then some ((0 : Int32), o21.2) else some ((1 : Int32), o21.2))).bind fun o18 => f_L_law_L128 L xs n o18.1 x11 (x12 + 1) o18.2) else (if x10 = 0 then some (0, w) else (f_X6_count 13 w.1).bind fun o25 => (if o25.1 = (-11) then (f_X6_refers 2 0 o25.2).bind fun o28 => (if o28.1 = (-11) then (f_X6_refers 0 4 o28.2).bind fun o31 => (if o31.1 = (-11) then some (1, (o31.2, w.2)) else some (0, (o31.2, w.2))) else some (0, (o28.2, w.2))) else some (0, (o25.2, w.2)))))
set_option maxRecDepth 100000 in
set_option maxHeartbeats 16000000 in
theorem gl_L_law_L128 {p : Program} {l : Launch} {e : Env} {s : State} {m : MethodId} {below : List Frame} {meth : Method} {c : Code} {D : va_G} {cI : ClassId × ClassId} {ad : Nat → Nat} {b L : Nat} {xs : Nat → Int32} {o : Int32 × JT} (X : gX p s m #[.ref b] meth c cL_law 13 RL D cI) (hr : meth.sig.returnType = ret) (hA : ∀ q, s.heap.size ≤ q → (fun q => s.heap.size ≤ q) q) (hXs : va_X b L xs s s.heap) (hbl : b < s.heap.size) (hbA : ¬ (fun q => s.heap.size ≤ q) b) (ho : o.1 = 1) (n : Nat) : ∀ {x10 x11 x12 : Int32} {w : JT} (kc ks : Nat), kc + n ≤ 600000 → ks + 7 * n ≤ 7302250 → f_L_law_L128 L xs n x10 x11 x12 w = some o → G p l e room_1 s m #[.ref b] below meth c D (fun q => s.heap.size ≤ q) 13 (lw_Z below #[.ref b] s) (wJ [] ad cI) kc ks 128 [some (.ref b), some (.ref (ad 2)), some (.ref (ad 93)), some (.ref (ad 94)), some (.ref (ad 95)), some (.ref (ad 96)), some (.ref (ad 97)), some (.ref (ad 98)), some (.ref (ad 99)), some (.ref (ad 100)), some (.int x10), some (.int x11), some (.int x12)] [] w := by
  induction n with
  | zero => intro x10 x11 x12 w kc ks hk1 hk2 hf; cases hf
  | succ n ih =>
    intro x10 x11 x12 w kc ks hk1 hk2 hf
    rw [f_L_law_L128] at hf
    refine g_iload X dL_law_128 rfl ?_
    refine g_iload X dL_law_130 rfl ?_
    refine g_icmp_ge X dL_law_132 (tgt := 210) (by decide) hf (fun c1 hf => ?_) (fun c1 hf => ?_)
    · refine g_iload X dL_law_135 rfl ?_
      refine g_if_eq X dL_law_137 (tgt := 210) (by decide) hf (fun c2 hf => ?_) (fun c2 hf => ?_)
      · refine g_iload X dL_law_210 rfl ?_
        refine g_if_eq X dL_law_212 (tgt := 252) (by decide) hf (fun c3 hf => ?_) (fun c3 hf => ?_)
        · refine g_iconst X dL_law_252 (v := 0) (by decide) ?_
          exact g_lret X hr dL_law_253 hf ho ⟨by omega, by omega⟩
        · refine g_aload_n X (i := 1) dL_law_215 rfl rfl ?_
          refine g_bipush X dL_law_216 (v := 13) (by decide) ?_
          obtain ⟨o4, h5, hf⟩ := hfb hf
          refine g_Vi X (q0 := 2) (As := [.int 13]) (rest := []) (w1 := (o4.2, w.2)) (liftJ_T (m := w.2) (c_X6_count (ad := ad) h5)) dL_law_218 ml_L_121 yv_X6_count rfl rfl rfl rfl ⟨Nat.le_of_ble_eq_true rfl, Nat.le_of_ble_eq_true rfl⟩ ⟨rfl, rfl⟩ (Nat.le_of_ble_eq_true rfl) ⟨(by show _ ≤ 600000; omega), (by show _ ≤ 7302250; omega)⟩ ?_
          refine g_bipush X dL_law_221 (v := (-11)) (by decide) ?_
          refine g_icmp_ne X dL_law_223 (tgt := 252) (by decide) hf (fun c6 hf => ?_) (fun c6 hf => ?_)
          · refine g_aload_n X (i := 1) dL_law_226 rfl rfl ?_
            refine g_iconst X dL_law_227 (v := 2) (by decide) ?_
            refine g_iconst X dL_law_228 (v := 0) (by decide) ?_
            obtain ⟨o7, h8, hf⟩ := hfb hf
            refine g_Vi X (q0 := 2) (As := [.int 2, .int 0]) (rest := []) (w1 := (o7.2, w.2)) (liftJ_T (m := w.2) (c_X6_refers (ad := ad) h8)) dL_law_229 ml_L_115 yv_X6_refers rfl rfl rfl rfl ⟨Nat.le_of_ble_eq_true rfl, Nat.le_of_ble_eq_true rfl⟩ ⟨rfl, rfl⟩ (Nat.le_of_ble_eq_true rfl) ⟨(by show _ ≤ 600000; omega), (by show _ ≤ 7302250; omega)⟩ ?_
            refine g_bipush X dL_law_232 (v := (-11)) (by decide) ?_
            refine g_icmp_ne X dL_law_234 (tgt := 252) (by decide) hf (fun c9 hf => ?_) (fun c9 hf => ?_)
            · refine g_aload_n X (i := 1) dL_law_237 rfl rfl ?_
              refine g_iconst X dL_law_238 (v := 0) (by decide) ?_
              refine g_iconst X dL_law_239 (v := 4) (by decide) ?_
              obtain ⟨o10, h11, hf⟩ := hfb hf
              refine g_Vi X (q0 := 2) (As := [.int 0, .int 4]) (rest := []) (w1 := (o10.2, w.2)) (liftJ_T (m := w.2) (c_X6_refers (ad := ad) h11)) dL_law_240 ml_L_115 yv_X6_refers rfl rfl rfl rfl ⟨Nat.le_of_ble_eq_true rfl, Nat.le_of_ble_eq_true rfl⟩ ⟨rfl, rfl⟩ (Nat.le_of_ble_eq_true rfl) ⟨(by show _ ≤ 600000; omega), (by show _ ≤ 7302250; omega)⟩ ?_
              refine g_bipush X dL_law_243 (v := (-11)) (by decide) ?_
              refine g_icmp_ne X dL_law_245 (tgt := 252) (by decide) hf (fun c12 hf => ?_) (fun c12 hf => ?_)
              · refine g_iconst X dL_law_248 (v := 1) (by decide) ?_
                refine g_goto X dL_law_249 (tgt := 253) (by decide) ?_
                exact g_lret X hr dL_law_253 hf ho ⟨by omega, by omega⟩
              · refine g_iconst X dL_law_252 (v := 0) (by decide) ?_
                exact g_lret X hr dL_law_253 hf ho ⟨by omega, by omega⟩
            · refine g_iconst X dL_law_252 (v := 0) (by decide) ?_
              exact g_lret X hr dL_law_253 hf ho ⟨by omega, by omega⟩
          · refine g_iconst X dL_law_252 (v := 0) (by decide) ?_
            exact g_lret X hr dL_law_253 hf ho ⟨by omega, by omega⟩
      · refine g_aload_n X (i := 1) dL_law_140 rfl rfl ?_
        refine g_aload_n X (i := 2) dL_law_141 rfl rfl ?_
        refine g_aload_n X (i := 3) dL_law_142 rfl rfl ?_
        refine g_aload X dL_law_143 rfl ?_
        refine g_aload X dL_law_145 rfl ?_
        refine g_aload X dL_law_147 rfl ?_
        refine g_aload X dL_law_149 rfl ?_
        refine g_aload X dL_law_151 rfl ?_
        refine g_aload X dL_law_153 rfl ?_
        refine g_aload_n X (i := 0) dL_law_155 rfl rfl ?_
        refine g_iconst X dL_law_156 (v := 1) (by decide) ?_
        refine g_iload X dL_law_157 rfl ?_
        refine g_iadd X dL_law_159 ?_
        obtain ⟨o13, h14, hf⟩ := hfb hf
        refine g_cell X hXs hbl hbA (rest := [.ref (ad 100), .ref (ad 99), .ref (ad 98), .ref (ad 97), .ref (ad 96), .ref (ad 95), .ref (ad 94), .ref (ad 93), .ref (ad 2)]) h14 dL_law_160 ml_L_129 ⟨Nat.le_of_ble_eq_true rfl, Nat.le_of_ble_eq_true rfl⟩ (Nat.le_of_ble_eq_true rfl) (Nat.le_of_ble_eq_true rfl) ⟨(by show _ ≤ 600000; omega), (by show _ ≤ 7302250; omega)⟩ ?_
        refine g_sipush X dL_law_163 (v := 7919) (by decide) ?_
        refine g_iload X dL_law_166 rfl ?_
        refine g_imul X dL_law_168 ?_
        refine g_ixor X dL_law_169 ?_
        obtain ⟨o15, h16, hf⟩ := hfb hf
        refine g_Si X (As := [.ref (ad 2), .ref (ad 93), .ref (ad 94), .ref (ad 95), .ref (ad 96), .ref (ad 97), .ref (ad 98), .ref (ad 99), .ref (ad 100), .int (o13 ^^^ (7919 * x12))]) (rest := []) (c_L_acts (ad := ad) h16) dL_law_170 ml_L_132 yv_L_acts rfl rfl ⟨Nat.le_of_ble_eq_true rfl, Nat.le_of_ble_eq_true rfl⟩ ⟨rfl, rfl⟩ (Nat.le_of_ble_eq_true rfl) ⟨(by show _ ≤ 600000; omega), (by show _ ≤ 7302250; omega)⟩ ?_
        obtain ⟨o18, h19, hf⟩ := hfb hf
        refine g_jnw (M := 202) (lo2 := [some (.ref b), some (.ref (ad 2)), some (.ref (ad 93)), some (.ref (ad 94)), some (.ref (ad 95)), some (.ref (ad 96)), some (.ref (ad 97)), some (.ref (ad 98)), some (.ref (ad 99)), some (.ref (ad 100)), none, some (.int x11), some (.int x12)]) (st2 := [.int o18.1]) (w2 := o18.2) ?_ (fun K20 => ?_)
        · refine g_istore X dL_law_202 (by decide) rfl ?_
          refine g_iinc X (i := 12) (v := 1) dL_law_204 rfl (by decide) (by decide) rfl ?_
          refine g_goto X dL_law_207 (tgt := 128) (by decide) ?_
          exact ih _ _ (by omega) (by omega) hf
        · have hf := h19
          refine g_if_eq X dL_law_173 (tgt := 201) (by decide) hf (fun c17 hf => ?_) (fun c17 hf => ?_)
          · refine g_iconst X dL_law_201 (v := 0) (by decide) ?_
            obtain rfl := Option.some.inj hf
            refine g_sub (losub (lo' := [some (.ref b), some (.ref (ad 2)), some (.ref (ad 93)), some (.ref (ad 94)), some (.ref (ad 95)), some (.ref (ad 96)), some (.ref (ad 97)), some (.ref (ad 98)), some (.ref (ad 99)), some (.ref (ad 100)), none, some (.int x11), some (.int x12)]) ⟨rfl, rfl, rfl, rfl, rfl, rfl, rfl, rfl, rfl, rfl, rfl, rfl, trivial⟩) ?_
            exact g_up (by omega) (by omega) K20
          · refine g_aload_n X (i := 1) dL_law_176 rfl rfl ?_
            refine g_aload_n X (i := 2) dL_law_177 rfl rfl ?_
            refine g_aload_n X (i := 3) dL_law_178 rfl rfl ?_
            refine g_aload X dL_law_179 rfl ?_
            refine g_aload X dL_law_181 rfl ?_
            refine g_aload X dL_law_183 rfl ?_
            refine g_aload X dL_law_185 rfl ?_
            refine g_aload X dL_law_187 rfl ?_
            refine g_aload X dL_law_189 rfl ?_
            obtain ⟨o21, h22, hf⟩ := hfb hf
            refine g_Sm X hA (As := [.ref (ad 2), .ref (ad 93), .ref (ad 94), .ref (ad 95), .ref (ad 96), .ref (ad 97), .ref (ad 98), .ref (ad 99), .ref (ad 100)]) (rest := []) (c_L_isSo h22) dL_law_191 ml_L_125 yv_L_isSo rfl rfl ⟨Nat.le_of_ble_eq_true rfl, Nat.le_of_ble_eq_true rfl⟩ ⟨rfl, rfl⟩ (Nat.le_of_ble_eq_true rfl) ⟨(by show _ ≤ 600000; omega), (by show _ ≤ 7302250; omega)⟩ ?_
            refine g_if_eq X dL_law_194 (tgt := 201) (by decide) hf (fun c23 hf => ?_) (fun c23 hf => ?_)
            · refine g_iconst X dL_law_201 (v := 0) (by decide) ?_
              obtain rfl := Option.some.inj hf
              refine g_sub (losub (lo' := [some (.ref b), some (.ref (ad 2)), some (.ref (ad 93)), some (.ref (ad 94)), some (.ref (ad 95)), some (.ref (ad 96)), some (.ref (ad 97)), some (.ref (ad 98)), some (.ref (ad 99)), some (.ref (ad 100)), none, some (.int x11), some (.int x12)]) ⟨rfl, rfl, rfl, rfl, rfl, rfl, rfl, rfl, rfl, rfl, rfl, rfl, trivial⟩) ?_
              exact g_up (by omega) (by omega) K20
            · refine g_iconst X dL_law_197 (v := 1) (by decide) ?_
              refine g_goto X dL_law_198 (tgt := 202) (by decide) ?_
              obtain rfl := Option.some.inj hf
              refine g_sub (losub (lo' := [some (.ref b), some (.ref (ad 2)), some (.ref (ad 93)), some (.ref (ad 94)), some (.ref (ad 95)), some (.ref (ad 96)), some (.ref (ad 97)), some (.ref (ad 98)), some (.ref (ad 99)), some (.ref (ad 100)), none, some (.int x11), some (.int x12)]) ⟨rfl, rfl, rfl, rfl, rfl, rfl, rfl, rfl, rfl, rfl, rfl, rfl, trivial⟩) ?_
              exact g_up (by omega) (by omega) K20
    · refine g_iload X dL_law_210 rfl ?_
      refine g_if_eq X dL_law_212 (tgt := 252) (by decide) hf (fun c24 hf => ?_) (fun c24 hf => ?_)
      · refine g_iconst X dL_law_252 (v := 0) (by decide) ?_
        exact g_lret X hr dL_law_253 hf ho ⟨by omega, by omega⟩
      · refine g_aload_n X (i := 1) dL_law_215 rfl rfl ?_
        refine g_bipush X dL_law_216 (v := 13) (by decide) ?_
        obtain ⟨o25, h26, hf⟩ := hfb hf
        refine g_Vi X (q0 := 2) (As := [.int 13]) (rest := []) (w1 := (o25.2, w.2)) (liftJ_T (m := w.2) (c_X6_count (ad := ad) h26)) dL_law_218 ml_L_121 yv_X6_count rfl rfl rfl rfl ⟨Nat.le_of_ble_eq_true rfl, Nat.le_of_ble_eq_true rfl⟩ ⟨rfl, rfl⟩ (Nat.le_of_ble_eq_true rfl) ⟨(by show _ ≤ 600000; omega), (by show _ ≤ 7302250; omega)⟩ ?_
        refine g_bipush X dL_law_221 (v := (-11)) (by decide) ?_
        refine g_icmp_ne X dL_law_223 (tgt := 252) (by decide) hf (fun c27 hf => ?_) (fun c27 hf => ?_)
        · refine g_aload_n X (i := 1) dL_law_226 rfl rfl ?_
          refine g_iconst X dL_law_227 (v := 2) (by decide) ?_
          refine g_iconst X dL_law_228 (v := 0) (by decide) ?_
          obtain ⟨o28, h29, hf⟩ := hfb hf
          refine g_Vi X (q0 := 2) (As := [.int 2, .int 0]) (rest := []) (w1 := (o28.2, w.2)) (liftJ_T (m := w.2) (c_X6_refers (ad := ad) h29)) dL_law_229 ml_L_115 yv_X6_refers rfl rfl rfl rfl ⟨Nat.le_of_ble_eq_true rfl, Nat.le_of_ble_eq_true rfl⟩ ⟨rfl, rfl⟩ (Nat.le_of_ble_eq_true rfl) ⟨(by show _ ≤ 600000; omega), (by show _ ≤ 7302250; omega)⟩ ?_
          refine g_bipush X dL_law_232 (v := (-11)) (by decide) ?_
          refine g_icmp_ne X dL_law_234 (tgt := 252) (by decide) hf (fun c30 hf => ?_) (fun c30 hf => ?_)
          · refine g_aload_n X (i := 1) dL_law_237 rfl rfl ?_
            refine g_iconst X dL_law_238 (v := 0) (by decide) ?_
            refine g_iconst X dL_law_239 (v := 4) (by decide) ?_
            obtain ⟨o31, h32, hf⟩ := hfb hf
            refine g_Vi X (q0 := 2) (As := [.int 0, .int 4]) (rest := []) (w1 := (o31.2, w.2)) (liftJ_T (m := w.2) (c_X6_refers (ad := ad) h32)) dL_law_240 ml_L_115 yv_X6_refers rfl rfl rfl rfl ⟨Nat.le_of_ble_eq_true rfl, Nat.le_of_ble_eq_true rfl⟩ ⟨rfl, rfl⟩ (Nat.le_of_ble_eq_true rfl) ⟨(by show _ ≤ 600000; omega), (by show _ ≤ 7302250; omega)⟩ ?_
            refine g_bipush X dL_law_243 (v := (-11)) (by decide) ?_
            refine g_icmp_ne X dL_law_245 (tgt := 252) (by decide) hf (fun c33 hf => ?_) (fun c33 hf => ?_)
            · refine g_iconst X dL_law_248 (v := 1) (by decide) ?_
              refine g_goto X dL_law_249 (tgt := 253) (by decide) ?_
              exact g_lret X hr dL_law_253 hf ho ⟨by omega, by omega⟩
            · refine g_iconst X dL_law_252 (v := 0) (by decide) ?_
              exact g_lret X hr dL_law_253 hf ho ⟨by omega, by omega⟩
          · refine g_iconst X dL_law_252 (v := 0) (by decide) ?_
            exact g_lret X hr dL_law_253 hf ho ⟨by omega, by omega⟩
        · refine g_iconst X dL_law_252 (v := 0) (by decide) ?_
          exact g_lret X hr dL_law_253 hf ho ⟨by omega, by omega⟩
def f_L_law_L62 : Nat → Int32 → JT → Option (JT)
  | 0, _, _ => none
  | n + 1, x10, w => (if x10 < 24 then if ib x10 24 then if ib (x10 - x10 / 8 * 8) 8 then f_L_law_L62 n (x10 + 1) (w.1, sA (sA w.2 2 x10 (-1)) 7 (x10 - x10 / 8 * 8) (-1)) else none else none else some (w))
set_option maxRecDepth 100000 in
set_option maxHeartbeats 4000000 in
theorem gl_L_law_L62 {p : Program} {l : Launch} {e : Env} {s : State} {m : MethodId} {args : Array Value} {below : List Frame} {meth : Method} {c : Code} {D : va_G} {A : Nat → Prop} {cI : ClassId × ClassId} {ad : Nat → Nat} {b : Nat} {Q : State → Prop} {o : JT} (X : gX p s m args meth c cL_law 13 RL D cI) (n : Nat) : ∀ {x10 : Int32} {w : JT}, f_L_law_L62 n x10 w = some o → G p l e room_1 s m args below meth c D A 13 Q (wJ [] ad cI) 101 1664 90 [some (.ref b), some (.ref (ad 2)), some (.ref (ad 93)), some (.ref (ad 94)), some (.ref (ad 95)), some (.ref (ad 96)), some (.ref (ad 97)), some (.ref (ad 98)), some (.ref (ad 99)), some (.ref (ad 100)), none, none, none] [] o → G p l e room_1 s m args below meth c D A 13 Q (wJ [] ad cI) 101 1664 62 [some (.ref b), some (.ref (ad 2)), some (.ref (ad 93)), some (.ref (ad 94)), some (.ref (ad 95)), some (.ref (ad 96)), some (.ref (ad 97)), some (.ref (ad 98)), some (.ref (ad 99)), some (.ref (ad 100)), some (.int x10), none, none] [] w := by
  induction n with
  | zero => intro x10 w hf; cases hf
  | succ n ih =>
    intro x10 w hf k
    rw [f_L_law_L62] at hf
    refine g_iload X dL_law_62 rfl ?_
    refine g_bipush X dL_law_64 (v := 24) (by decide) ?_
    refine g_icmp_ge X dL_law_66 (tgt := 90) (by decide) hf (fun c35 hf => ?_) (fun c35 hf => ?_)
    · refine g_aload X dL_law_69 rfl ?_
      refine g_iload X dL_law_71 rfl ?_
      refine g_iconst X dL_law_73 (v := (-1)) (by decide) ?_
      obtain ⟨hb36, hf⟩ := hfg hf
      refine g_iast X (q0 := 95) (f := w.2.2 2) dL_law_74 rfl hb36 (awJ_2 ad cI _ _ _) ?_
      refine g_aload X dL_law_75 rfl ?_
      refine g_iload X dL_law_77 rfl ?_
      refine g_bipush X dL_law_79 (v := 8) (by decide) ?_
      refine g_irem X dL_law_81 (by decide) ?_
      refine g_iconst X dL_law_82 (v := (-1)) (by decide) ?_
      obtain ⟨hb37, hf⟩ := hfg hf
      refine g_iast X (q0 := 100) (f := w.2.2 7) dL_law_83 rfl hb37 (awJ_7 ad cI _ _ _) ?_
      refine g_iinc X (i := 10) (v := 1) dL_law_84 rfl (by decide) (by decide) rfl ?_
      refine g_goto X dL_law_87 (tgt := 62) (by decide) ?_
      exact ih hf k
    · obtain rfl := Option.some.inj hf
      refine g_sub (losub (lo' := [some (.ref b), some (.ref (ad 2)), some (.ref (ad 93)), some (.ref (ad 94)), some (.ref (ad 95)), some (.ref (ad 96)), some (.ref (ad 97)), some (.ref (ad 98)), some (.ref (ad 99)), some (.ref (ad 100)), none, none, none]) ⟨rfl, rfl, rfl, rfl, rfl, rfl, rfl, rfl, rfl, rfl, trivial⟩) ?_
      exact k
def f_L_law (L : Nat) (xs : Nat → Int32) (w : JT) : Option (Int32 × JT) := if ib 8 11 then (f_L_law_L62 BIG 0 (w.1, sA w.2 0 8 1)).bind fun o38 => (f_L_isSo o38).bind fun o40 => (f_cell L xs 0).bind fun o42 => (f_L_low o42 70 o40.2).bind fun o44 => f_L_law_L128 L xs BIG o40.1 (20 + o44.1) 0 o44.2 else none
set_option maxRecDepth 100000 in
set_option maxHeartbeats 16000000 in
theorem g_law54 {p : Program} {l : Launch} {e : Env} {s : State} {m : MethodId} {below : List Frame} {meth : Method} {c : Code} {D : va_G} {cI : ClassId × ClassId} {ad : Nat → Nat} {b L : Nat} {xs : Nat → Int32} {o : Int32 × JT} (X : gX p s m #[.ref b] meth c cL_law 13 RL D cI) (hr : meth.sig.returnType = ret) (hA : ∀ q, s.heap.size ≤ q → (fun q => s.heap.size ≤ q) q) (hXs : va_X b L xs s s.heap) (hbl : b < s.heap.size) (hbA : ¬ (fun q => s.heap.size ≤ q) b) (ho : o.1 = 1) {w : JT} (hf : f_L_law L xs w = some o) : G p l e room_1 s m #[.ref b] below meth c D (fun q => s.heap.size ≤ q) 13 (lw_Z below #[.ref b] s) (wJ [] ad cI) 101 1664 54 [some (.ref b), some (.ref (ad 2)), some (.ref (ad 93)), some (.ref (ad 94)), some (.ref (ad 95)), some (.ref (ad 96)), some (.ref (ad 97)), some (.ref (ad 98)), some (.ref (ad 99)), some (.ref (ad 100)), none, none, none] [] w := by
  unfold f_L_law at hf
  refine g_aload_n X (i := 2) dL_law_54 rfl rfl ?_
  refine g_bipush X dL_law_55 (v := 8) (by decide) ?_
  refine g_iconst X dL_law_57 (v := 1) (by decide) ?_
  obtain ⟨hb34, hf⟩ := hfg hf
  refine g_iast X (q0 := 93) (f := w.2.2 0) dL_law_58 rfl hb34 (awJ_0 ad cI _ _ _) ?_
  refine g_iconst X dL_law_59 (v := 0) (by decide) ?_
  refine g_istore X dL_law_60 (by decide) rfl ?_
  obtain ⟨o38, h39, hf⟩ := hfb hf
  refine gl_L_law_L62 X BIG h39 ?_
  refine g_aload_n X (i := 1) dL_law_90 rfl rfl ?_
  refine g_aload_n X (i := 2) dL_law_91 rfl rfl ?_
  refine g_aload_n X (i := 3) dL_law_92 rfl rfl ?_
  refine g_aload X dL_law_93 rfl ?_
  refine g_aload X dL_law_95 rfl ?_
  refine g_aload X dL_law_97 rfl ?_
  refine g_aload X dL_law_99 rfl ?_
  refine g_aload X dL_law_101 rfl ?_
  refine g_aload X dL_law_103 rfl ?_
  obtain ⟨o40, h41, hf⟩ := hfb hf
  refine g_Sm X hA (As := [.ref (ad 2), .ref (ad 93), .ref (ad 94), .ref (ad 95), .ref (ad 96), .ref (ad 97), .ref (ad 98), .ref (ad 99), .ref (ad 100)]) (rest := []) (c_L_isSo h41) dL_law_105 ml_L_125 yv_L_isSo rfl rfl ⟨Nat.le_of_ble_eq_true rfl, Nat.le_of_ble_eq_true rfl⟩ ⟨rfl, rfl⟩ (Nat.le_of_ble_eq_true rfl) ⟨Nat.le_of_ble_eq_true rfl, Nat.le_of_ble_eq_true rfl⟩ ?_
  refine g_istore X dL_law_108 (by decide) rfl ?_
  refine g_bipush X dL_law_110 (v := 20) (by decide) ?_
  refine g_aload_n X (i := 0) dL_law_112 rfl rfl ?_
  refine g_iconst X dL_law_113 (v := 0) (by decide) ?_
  obtain ⟨o42, h43, hf⟩ := hfb hf
  refine g_cell X hXs hbl hbA (rest := [.int 20]) h43 dL_law_114 ml_L_129 ⟨Nat.le_of_ble_eq_true rfl, Nat.le_of_ble_eq_true rfl⟩ (Nat.le_of_ble_eq_true rfl) (Nat.le_of_ble_eq_true rfl) ⟨Nat.le_of_ble_eq_true rfl, Nat.le_of_ble_eq_true rfl⟩ ?_
  refine g_bipush X dL_law_117 (v := 70) (by decide) ?_
  obtain ⟨o44, h45, hf⟩ := hfb hf
  refine g_Si X (As := [.int o42, .int 70]) (rest := [.int 20]) (c_L_low (wf := (wJ [] ad cI)) h45) dL_law_119 ml_L_92 yv_L_low rfl rfl ⟨Nat.le_of_ble_eq_true rfl, Nat.le_of_ble_eq_true rfl⟩ ⟨rfl, rfl⟩ (Nat.le_of_ble_eq_true rfl) ⟨Nat.le_of_ble_eq_true rfl, Nat.le_of_ble_eq_true rfl⟩ ?_
  refine g_iadd X dL_law_122 ?_
  refine g_istore X dL_law_123 (by decide) rfl ?_
  refine g_iconst X dL_law_125 (v := 0) (by decide) ?_
  refine g_istore X dL_law_126 (by decide) rfl ?_
  exact gl_L_law_L128 X hr hA hXs hbl hbA ho BIG (101 + 1) (1664 + 7) (Nat.le_of_ble_eq_true rfl) (Nat.le_of_ble_eq_true rfl) hf
