theorem nst_tb : ∀ q ∈ nsts, Cond.methodLinkNest q.1 q.2.1 q.2.2.1 q.2.2.2 ∈ lw_tbl := List.forall_mem_cons.mpr ⟨tb_1 22 rfl, List.forall_mem_cons.mpr ⟨tb_1 167 rfl, List.forall_mem_cons.mpr ⟨tb_1 34 rfl, List.forall_mem_cons.mpr ⟨tb_2 79 rfl, List.forall_mem_cons.mpr ⟨tb_1 223 rfl, List.forall_mem_cons.mpr ⟨tb_2 70 rfl, List.forall_mem_cons.mpr ⟨tb_1 153 rfl, List.forall_mem_cons.mpr ⟨tb_2 110 rfl, List.forall_mem_cons.mpr ⟨tb_3 27 rfl, List.forall_mem_cons.mpr ⟨tb_2 167 rfl, List.forall_mem_cons.mpr ⟨tb_1 85 rfl, List.forall_mem_cons.mpr ⟨tb_2 88 rfl, List.forall_mem_cons.mpr ⟨tb_3 47 rfl, List.forall_mem_cons.mpr ⟨tb_1 80 rfl, List.forall_mem_cons.mpr ⟨tb_2 65 rfl, List.forall_mem_cons.mpr ⟨tb_2 154 rfl, fun _ h => absurd h List.not_mem_nil⟩⟩⟩⟩⟩⟩⟩⟩⟩⟩⟩⟩⟩⟩⟩⟩
set_option maxHeartbeats 4000000 in
set_option maxRecDepth 100000 in
theorem whole_start {p : Program} {e : Env} {s : State} {m : MethodId} {below : List Frame} {meth : Method} {c : Code} (l : Launch) (hflags : l.flags = flags0) {b L : Nat} {xs : Nat → Int32} (hL : L ≤ 260) (C0 : lw_At p s m meth c b L xs) : W p l e room_1 s m #[Value.ref b] below meth c s.heap [] 0 0 (lw_Z below #[Value.ref b] s) (entryFrame m ([Value.ref b] : List Value).toArray 13) := by
  obtain ⟨hx, hb, hr, hml, hown, hts, hXs, hbl, hlocks, hgv⟩ := id C0
  have hA : ∀ q : Nat, s.heap.size ≤ q → (fun q : Nat => s.heap.size ≤ q) q := fun _ h => h
  have hbA : ¬ (fun q : Nat => s.heap.size ≤ q) b := Nat.not_le.mpr hbl
  have htg : ∀ w ∈ lw_g, w.before #[Value.ref b] s = true := fun w h => hts w (lw_g_tb h)
  obtain ⟨d0, i0, k0⟩ := u_known (C := RX0) (T := TX0) (N := 11) (n := 11) htg inX0 (htg (.instantiable RX0 11) (tb1 166 rfl))
  obtain ⟨d1, i1, k1⟩ := u_known (C := RX1) (T := TX1) (N := 6) (n := 6) htg inX1 (htg (.instantiable RX1 6) (tb1 27 rfl))
  obtain ⟨d2, i2, k2⟩ := u_known (C := RX2) (T := TX2) (N := 3) (n := 3) htg inX2 (htg (.instantiable RX2 3) (tb1 146 rfl))
  obtain ⟨d3, i3, k3⟩ := u_known (C := RX3) (T := TX3) (N := 2) (n := 2) htg inX3 (htg (.instantiable RX3 2) (tb1 33 rfl))
  obtain ⟨d4, i4, k4⟩ := u_known (C := RX4) (T := TX4) (N := 9) (n := 9) htg inX4 (htg (.instantiable RX4 9) (tb1 79 rfl))
  obtain ⟨d5, i5, k5⟩ := u_known (C := RX5) (T := TX5) (N := 6) (n := 6) htg inX5 (htg (.instantiable RX5 6) (tb1 21 rfl))
  obtain ⟨d6, i6, k6⟩ := u_known (C := RX6) (T := TX6) (N := 6) (n := 6) htg inX6 (htg (.instantiable RX6 6) (tb1 13 rfl))
  obtain ⟨dC, dI, hKc⟩ : ∃ (dC : Nat → ClassId) (dI : Nat → Nat → Nat), ∀ (k : Nat) (q : vw_C), vwCl[k]? = some q → u_Kn s q.1 q.2.1 q.2.2 (dC k) (dI k) := by
    refine ⟨fun k => if k = 0 then d0 else if k = 1 then d1 else if k = 2 then d2 else if k = 3 then d3 else if k = 4 then d4 else if k = 5 then d5 else d6, fun k => if k = 0 then i0 else if k = 1 then i1 else if k = 2 then i2 else if k = 3 then i3 else if k = 4 then i4 else if k = 5 then i5 else i6, ?_⟩
    intro k q hq
    match k, hq with
    | 0, hq => cases hq; exact k0
    | 1, hq => cases hq; exact k1
    | 2, hq => cases hq; exact k2
    | 3, hq => cases hq; exact k3
    | 4, hq => cases hq; exact k4
    | 5, hq => cases hq; exact k5
    | 6, hq => cases hq; exact k6
    | k + 7, hq => simp [vwCl] at hq
  obtain ⟨cA, kA, comp, a1, a2, a3⟩ := Cond.arrayClass_spec (htg _ arr_int)
  obtain ⟨comp2, cO, kO, o1, o2, o3, o4, o5⟩ := Cond.arrayOver_spec (n := "ReachedHeap$State") (hts (.arrayOver (.object "ReachedHeap$State")) (tb_1 152 rfl))
  have hK : gK (dC, dI) (cA, cO) s := by
    refine ⟨⟨hKc, fun k q h => ?_⟩, fun q hq => va_Nw.of rfl (hts _ (nst_tb q hq)), va_AO.of (hts (.arrayOver (.object "ReachedHeap$State")) (tb_1 152 rfl))⟩
    match k, h with
    | 0, h => cases h; exact ⟨fun n z => ⟨fun k h => (by cases h), kA, a2, comp, a3⟩, a1⟩
    | 1, h => cases h; exact ⟨fun n z => ⟨fun k h => (by cases h), kO, o3, comp2, o4⟩, kO, comp2, o3, o4, o1, o5⟩
    | k + 2, h => simp at h
  have X : gX p s m #[Value.ref b] meth c cL_law 13 RL (dC, dI) (cA, cO) := ⟨hx, hb, hml, hown, htg, hK, hlocks⟩
  obtain ⟨o, hf, ho⟩ := pure_law L xs hL
  rw [lg_entry_eq]
  have key : G p l e room_1 s m #[Value.ref b] below meth c (dC, dI) (fun q : Nat => s.heap.size ≤ q) 13 (lw_Z below #[Value.ref b] s) wI 0 0 0 [some (.ref b), none, none, none, none, none, none, none, none, none, none, none, none] [] [] := by
    refine g_new X hA (C := RX6) (T := TX6) (ty0 := tyX6) (N := 6) (ci := 6) (fs := [.null, .null, .null, .null, .null, .int 0]) dL_law_0 gC_X6 (tb1 12 rfl) (tb1 13 rfl) (tb1 1 rfl) rfl (fun j hj => by rcases (show j = 0 ∨ j = 1 ∨ j = 2 ∨ j = 3 ∨ j = 4 ∨ j = 5 by omega) with rfl | rfl | rfl | rfl | rfl | rfl <;> rfl) ⟨Nat.le_of_ble_eq_true rfl, Nat.le_of_ble_eq_true rfl⟩ (fun q1 => ?_)
    refine g_dup X dL_law_3 rfl ?_
    refine g_ctor X hA (c_X6_init (h0 := q1)) dL_law_4 ml_L_124 yi_X6 ⟨Nat.le_of_ble_eq_true rfl, Nat.le_of_ble_eq_true rfl⟩ ⟨rfl, rfl⟩ (Nat.le_of_ble_eq_true rfl) ⟨Nat.le_of_ble_eq_true rfl, Nat.le_of_ble_eq_true rfl⟩ (fun qs2 => ?_)
    refine g_astore_n X (i := 1) dL_law_7 rfl (by decide) rfl ?_
    refine g_bipush X dL_law_8 (v := 11) (by decide) ?_
    refine g_newa X hA 11 dL_law_10 (by decide) (by decide) (Nat.le_of_ble_eq_true rfl) ⟨Nat.le_of_ble_eq_true rfl, Nat.le_of_ble_eq_true rfl⟩ (fun qa0 => ?_)
    refine g_astore_n X (i := 2) dL_law_12 rfl (by decide) rfl ?_
    refine g_bipush X dL_law_13 (v := 24) (by decide) ?_
    refine g_newa X hA 24 dL_law_15 (by decide) (by decide) (Nat.le_of_ble_eq_true rfl) ⟨Nat.le_of_ble_eq_true rfl, Nat.le_of_ble_eq_true rfl⟩ (fun qa1 => ?_)
    refine g_astore_n X (i := 3) dL_law_17 rfl (by decide) rfl ?_
    refine g_bipush X dL_law_18 (v := 24) (by decide) ?_
    refine g_newa X hA 24 dL_law_20 (by decide) (by decide) (Nat.le_of_ble_eq_true rfl) ⟨Nat.le_of_ble_eq_true rfl, Nat.le_of_ble_eq_true rfl⟩ (fun qa2 => ?_)
    refine g_astore X dL_law_22 (by decide) rfl ?_
    refine g_bipush X dL_law_24 (v := 24) (by decide) ?_
    refine g_newa X hA 24 dL_law_26 (by decide) (by decide) (Nat.le_of_ble_eq_true rfl) ⟨Nat.le_of_ble_eq_true rfl, Nat.le_of_ble_eq_true rfl⟩ (fun qa3 => ?_)
    refine g_astore X dL_law_28 (by decide) rfl ?_
    refine g_bipush X dL_law_30 (v := 24) (by decide) ?_
    refine g_newa X hA 24 dL_law_32 (by decide) (by decide) (Nat.le_of_ble_eq_true rfl) ⟨Nat.le_of_ble_eq_true rfl, Nat.le_of_ble_eq_true rfl⟩ (fun qa4 => ?_)
    refine g_astore X dL_law_34 (by decide) rfl ?_
    refine g_bipush X dL_law_36 (v := 24) (by decide) ?_
    refine g_newa X hA 24 dL_law_38 (by decide) (by decide) (Nat.le_of_ble_eq_true rfl) ⟨Nat.le_of_ble_eq_true rfl, Nat.le_of_ble_eq_true rfl⟩ (fun qa5 => ?_)
    refine g_astore X dL_law_40 (by decide) rfl ?_
    refine g_bipush X dL_law_42 (v := 24) (by decide) ?_
    refine g_newa X hA 24 dL_law_44 (by decide) (by decide) (Nat.le_of_ble_eq_true rfl) ⟨Nat.le_of_ble_eq_true rfl, Nat.le_of_ble_eq_true rfl⟩ (fun qa6 => ?_)
    refine g_astore X dL_law_46 (by decide) rfl ?_
    refine g_bipush X dL_law_48 (v := 8) (by decide) ?_
    refine g_newa X hA 8 dL_law_50 (by decide) (by decide) (Nat.le_of_ble_eq_true rfl) ⟨Nat.le_of_ble_eq_true rfl, Nat.le_of_ble_eq_true rfl⟩ (fun qa7 => ?_)
    refine g_astore X dL_law_52 (by decide) rfl ?_
    refine to_L (q1 := q1) (qs2 := qs2) (qa := fun k => ([qa0, qa1, qa2, qa3, qa4, qa5, qa6, qa7] : List Nat).getD k 0) ?_
    exact g_law54 X hr hA hXs hbl hbA ho hf
  exact key s.heap [] _ (lo_entry (As := [.ref b]) rfl (Nat.le_of_ble_eq_true rfl)) (fun k q h => by simp [wI] at h) ⟨fun i j p q h => by simp [wI] at h, fun k q h => by simp [wI] at h⟩ va_S.rf
set_option maxHeartbeats 4000000 in
theorem lw_walk (l : Launch) (hflags : l.flags = flags0) (b : Addr) (xs : List Int32) : MetFree l x (headSpec (Jvm.Cond.code x code maxLocals ret :: tables_1) room_1) (lw_P b xs) (fun _ _ _ _ _ => True) lw_Q := by
  refine MetFree.of_bodyS (code := code) (maxLocals := maxLocals) (ret := ret) (by decide) ?_ ?_
  · intro args s m h hn
    obtain ⟨meth, c, h1, h2, h3, h4, h5, h6, -, -⟩ := Cond.code_spec hn (atoms_spec (ws := Jvm.Cond.code x code maxLocals ret :: tables_1) h _ List.mem_cons_self)
    exact ⟨meth, c, h1, h2, h3, h4, h5, h6⟩
  · intro p e s m args below meth c s₁ B hml0 hP _
    obtain ⟨rfl, hx, hbd, hgv⟩ := hP
    obtain ⟨scr, harrAt, hlist, hof, hsmall⟩ := hx
    obtain ⟨hcb, hkn, -, -⟩ := State.arrayAt?_spec harrAt
    have hown : s.vm.findClass R_law = some m.cls := findClass_of_methodNamed B.named
    have hts0 : ∀ c ∈ (Jvm.Cond.code x code maxLocals ret :: tables_1), c.before #[Value.ref b] s = true := atoms_spec (ws := Jvm.Cond.code x code maxLocals ret :: tables_1) B.pre
    have hts : ∀ w ∈ lw_tbl, w.before #[Value.ref b] s = true := k2_hts_sels lw_privs (fun w hw => hts0 w (List.mem_cons_of_mem _ hw)) lw_privs_ok
    have hml : c.maxLocals = 13 := B.maxLocals_eq (hts0 _ List.mem_cons_self)
    have X₀ : Stand p l e room_1 s m #[Value.ref b] below meth c s₁ [] 0 0 := Stand.of_body B
    have hh0 : s₁.heap = s.heap := by rw [B.state]; rfl
    have hsz : scr.slots.size = xs.length := by rw [← Array.length_toList, hlist, List.length_map]
    have hval : ∀ j : Nat, j < xs.length → scr.slots[j]? = some (.int (xs.getD j 0)) := fun j hj => by
      rw [← Array.getElem?_toList, hlist]
      simp [hj]
    have hbl : b < s.heap.size := (Array.getElem?_eq_some_iff.mp hcb).1
    have hX : va_X b xs.length (fun j => xs.getD j 0) s s.heap := ⟨scr, hcb, hof, hkn, hsz, hval⟩
    have K : W p l e room_1 s m #[Value.ref b] below meth c s₁.heap [] 0 0 (lw_Z below #[Value.ref b] s) (entryFrame m ([Value.ref b] : List Value).toArray 13) := by
      rw [hh0]
      exact whole_start l hflags hbd ⟨B.exec, B.bytes, B.returns, hml, hown, hts, hX, hbl, B.notSynchronized, hgv⟩
    obtain ⟨t, a1, o, b1, b2, b3⟩ := K s₁ rfl X₀
    exact ⟨t, o, a1, b1, b2, b3⟩
theorem lw_pre_spec {args : Array Value} {s : State} (h : (Jvm.Cond.and given_1 narrow_1).before args s = true) (hr : rest_1_c.before args s = true) : ∃ (b : Addr) (xs : List Int32), lw_P b xs args s := by
  have hs := flat_of_before _ h
  have hq := flat_of_before _ hr
  have hc : (Cond.count 1).before args s = true := hs _ (by decide +kernel)
  have harr : (Cond.arrayOf (.arg 0) .int).before args s = true := hs _ (by decide +kernel)
  have hle : (Cond.le (.length (.arg 0)) (.int 260)).before args s = true := hs _ (by decide +kernel)
  have hlen : (Cond.isInt (.length (.arg 0))).before args s = true := hq _ (by decide +kernel)
  have hall : (Cond.all (.arg 0) (.isInt (.elem (.arg 0) (.index 0)))).before args s = true := hq _ (by decide +kernel)
  obtain ⟨b, xs, hb, hx⟩ := State.ints_of_pre rfl harr hlen hall
  have hsm : xs.length < 2 ^ 31 := hx.choose_spec.2.2.2
  have hev : (Term.length (.arg 0)).eval args s none [] s = some (.int xs.length.toInt32) := hx.length_eval hb
  have hv := Cond.le_ints hev (show (Term.int 260).eval args s none [] s = some (.int 260) from rfl)
  have hd : xs.length.toInt32 ≤ 260 := by
    simpa [Cond.before, Cond.holds, hv] using hle
  have hN : xs.length ≤ 260 := (Int32.ofNat_le_ofNat hsm (by decide)).mp (show Int32.ofNat xs.length ≤ Int32.ofNat 260 from hd)
  exact ⟨b, xs, Cond.one_arg hc (show args[0]? = some (.ref b) from hb), hx, hN, h⟩
theorem lw_comes (l : Launch) (hflags : l.flags = flags0) : Comes l x (Jvm.Cond.code x code maxLocals ret :: tables_1) room_1 (fun tb e args s => Calls_1 tb e args s ∧ rest_1 tb e args s ∧ Pre_1 tb e args s)
    (fun _ _ args s o t => lw_Q args s o t) := by
  intro p e ha hc hk s m args below hf hfit hheap happ hpre
  obtain ⟨b, xs, hP⟩ := lw_pre_spec hpre.2.2 hpre.2.1
  obtain ⟨k, o, h1, h2, h3, hQ⟩ := lw_walk l hflags b xs p e ha hc hk s m args below hf ((Spec.applies_iff_loose hf).mp happ).1 hP trivial
  exact ⟨k, o, h1, h2, h3, hQ⟩
theorem lw_frame {s t : State} {o : Outcome} {args : Array Value} (h : Framed s o t [] 600000 7302250) :
    Framed s o t (fieldLocs frame_1_writes args s ++ arrayLocs frame_1_arrays args s ++ staticLocs frame_1_statics s) 600000 7302250 := h
theorem lw_limb (L : Cond) (hL : ∀ (args : Array Value) (s t : State), L.after args s (.returned (some (.int 1))) t = true) :
    ArmFor flags0 classFile x code maxLocals ret World_1 tables_1 room_1 Calls_1 rest_1 Pre_1
      (fun tb e a s o t => postC L tb e a s o t ∧ Framed s o t (fieldLocs frame_1_writes a s ++ arrayLocs frame_1_arrays a s ++ staticLocs frame_1_statics s) 600000 7302250) := by
  intro l hflags _ _ p e ha hc hk s m args below hf hfit hheap happ hpre
  obtain ⟨k, o, h1, h2, h3, rfl, hF⟩ := lw_comes l hflags p e ha hc hk s m args below hf hfit hheap happ hpre
  exact ⟨k, _, h1, h2, h3, hL args s _, lw_frame hF⟩
theorem i_vc : Claimed_1_1 ∧ Claimed_1_2 := ⟨lw_limb limb_1_1 (fun args s t => by simp [limb_1_1, Cond.after, Cond.holds, Cond.value]), lw_limb limb_1_2 (fun args s t => Cond.after_iff.mpr (by
  first | (rw [show limb_1_2 = Cond.eq .result (.int 1) from rfl, Cond.eq_ints (x := 1) (y := 1) rfl rfl]; simp; done) | (simp [limb_1_2, Cond.value, Term.eval]; done)))⟩

