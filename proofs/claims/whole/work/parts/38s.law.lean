/-! PURE: the law's loop -/
theorem top_make {t : TT} {m : St} {B L : Nat} {T : Nat → Int32} (h : RelT t m B T L) (x1 : Int32) : Top B (f_X6_make x1 t) (f_X7_make x1 m) := chg_Top h (fun w => f_X5_create x1 w) (f_X7_make x1 m) (fun w m' a b c => make_step a b c x1)
theorem top_field {t : TT} {m : St} {B L : Nat} {T : Nat → Int32} (h : RelT t m B T L) (x1 x2 x3 : Int32) : Top B (f_X6_field x1 x2 x3 t) (f_X7_field x1 x2 x3 m) := chg_Top h (fun w => f_X5_writeField x1 x2 x3 w) (f_X7_field x1 x2 x3 m) (fun w m' a b c => field_step a b c x1 x2 x3)
theorem top_root {t : TT} {m : St} {B L : Nat} {T : Nat → Int32} (h : RelT t m B T L) (x1 x2 : Int32) : Top B (f_X6_root x1 x2 t) (f_X7_root x1 x2 m) := chg_Top h (fun w => f_X5_writeRoot x1 x2 w) (f_X7_root x1 x2 m) (fun w m' a b c => root_step a b c x1 x2)
theorem top_weak {t : TT} {m : St} {B L : Nat} {T : Nat → Int32} (h : RelT t m B T L) (x1 x2 : Int32) : Top B (f_X6_weak x1 x2 t) (f_X7_weak x1 x2 m) := chg_Top h (fun w => f_X5_writeHolder x1 x2 w) (f_X7_weak x1 x2 m) (fun w m' a b c => weak_step a b c x1 x2)
theorem top_ask {t : TT} {m : St} {B L : Nat} {T : Nat → Int32} (h : RelT t m B T L) (x1 x2 : Int32) : Top B (f_X6_ask x1 x2 t) (f_X7_ask x1 x2 m) := chg_Top h (fun w => f_X5_askHolder x1 x2 w) (f_X7_ask x1 x2 m) (fun w m' a b c => ask_step a b c x1 x2)
theorem top_want {t : TT} {m : St} {B L : Nat} {T : Nat → Int32} (h : RelT t m B T L) (x1 : Int32) : Top B (f_X6_want x1 t) (f_X7_want x1 m) := chg_Top h (fun w => f_X5_wishFinish x1 w) (f_X7_want x1 m) (fun w m' a b c => want_step a b c x1)
theorem top_finish {t : TT} {m : St} {B L : Nat} {T : Nat → Int32} (h : RelT t m B T L) (x1 : Int32) : Top B (f_X6_finish x1 t) (f_X7_finish x1 m) := chg_Top h (fun w => f_X5_finishFirst x1 w) (f_X7_finish x1 m) (fun w m' a b c => finish_step a b c x1)
theorem top_begin {t : TT} {m : St} {B L : Nat} {T : Nat → Int32} (h : RelT t m B T L) : Top B (f_X6_begin t) (f_X7_begin m) := chg_Top h (fun w => f_X5_beginSearch w) (f_X7_begin m) (fun w m' a b c => begin_step a b c)
theorem top_step {t : TT} {m : St} {B L : Nat} {T : Nat → Int32} (h : RelT t m B T L) (x1 : Int32) : Top B (f_X6_step x1 t) (f_X7_step x1 m) := chg_Top h (fun w => f_X5_doSteps x1 w) (f_X7_step x1 m) (fun w m' a b c => step_step a b c x1)
theorem top_all {t : TT} {m : St} {B L : Nat} {T : Nat → Int32} (h : RelT t m B T L) : Top B (f_X6_all t) (f_X7_all m) := chg_Top h (fun w => f_X5_doAllSteps w) (f_X7_all m) (fun w m' a b c => all_step a b c)
theorem topSet_ {t : TT} {m : St} {B L : Nat} {T : Nat → Int32} (h : RelT t m B T L) (x1 : Int32) : Top B (f_X6_set x1 t) (f_X7_set x1 m) := chg_Top h (fun w => f_X5_setCare x1 w) (f_X7_set x1 m) (fun w m' a b c => set_step a b c x1)
theorem law_close {B : Nat} {co : Option (Int32 × TT)} {mo : Option (Int32 × St)} {F : LT → Option (Int32 × LT)} (h : Top B co mo) (hF : ∀ t' m' T' L', RelT t' m' (B + 64) T' L' → ∃ o, F (t', m') = some o ∧ o.1 = 1) : ∃ o, (co.bind fun o5 => mo.bind fun o8 => (if o5.1 = o8.1 then F (o5.2, o8.2) else some (0, (o5.2, o8.2)))) = some o ∧ o.1 = 1 := by
  obtain ⟨v, t', m', T', L', e1, e2, hR⟩ := h
  obtain ⟨o, e3, e4⟩ := hF t' m' T' L' hR
  refine ⟨o, ?_, e4⟩
  rw [e1, Option.bind_some, e2, Option.bind_some, if_pos rfl]
  exact e3
theorem law_loop (L : Nat) (xs : Nat → Int32) (hL : L ≤ 2048) : ∀ (n k B : Nat) (t : TT) (m : St) (T : Nat → Int32) (L' : Nat), k ≤ L → L < k + n → B ≤ 64 * k → RelT t m B T L' → ∃ o, f_L_law_L18 L xs n (nI k) (t, m) = some o ∧ o.1 = 1 := by
  intro n
  induction n with
  | zero => intro k B t m T L' h1 h2; omega
  | succ n ih =>
    intro k B t m T L' hk hn hB h
    rw [f_L_law_L18]
    by_cases hstop : k + 4 ≤ L
    · have hns : ¬ (Int32.ofNat L) - 4 < nI k := by
        have e : (Int32.ofNat L) - 4 = nI (L - 4) := nI_sub (a := L) (b := 4) (by omega)
        rw [e]
        exact fun q => by have := (nI_ltI (by omega) (by omega)).mp q; omega
      have k1 : k + 1 < L := by omega
      have k2 : k + 2 < L := by omega
      have k3 : k + 3 < L := by omega
      have ih' : ∀ t' m' T' L', RelT t' m' (B + 64) T' L' → ∃ o, f_L_law_L18 L xs n (nI (k + 4)) (t', m') = some o ∧ o.1 = 1 := fun t' m' T' L' hR => ih (k + 4) (B + 64) t' m' T' L' (by omega) (by omega) (by omega) hR
      rw [if_neg hns, if_pos ((ibN (by omega)).mpr (by omega))]
      generalize (xs (nI k).toNatClampNeg) &&& 31 = c
      by_cases c0 : c = 0
      · rw [if_pos c0]
        simp (disch := omega) only [addR, ibN, clN, k1, if_true]
        exact law_close (F := f_L_law_L18 L xs n (nI (k + 4))) (top_make h (xs (k + 1))) ih'
      rw [if_neg c0]
      by_cases c1 : c = 1
      · rw [if_pos c1]
        simp (disch := omega) only [addR, ibN, clN, k1, k2, k3, if_true]
        exact law_close (F := f_L_law_L18 L xs n (nI (k + 4))) (top_field h (xs (k + 1)) (xs (k + 2)) (xs (k + 3))) ih'
      rw [if_neg c1]
      by_cases c2 : c = 2
      · rw [if_pos c2]
        simp (disch := omega) only [addR, ibN, clN, k1, k2, if_true]
        exact law_close (F := f_L_law_L18 L xs n (nI (k + 4))) (top_root h (xs (k + 1)) (xs (k + 2))) ih'
      rw [if_neg c2]
      by_cases c3 : c = 3
      · rw [if_pos c3]
        simp (disch := omega) only [addR, ibN, clN, k1, k2, if_true]
        exact law_close (F := f_L_law_L18 L xs n (nI (k + 4))) (top_weak h (xs (k + 1)) (xs (k + 2))) ih'
      rw [if_neg c3]
      by_cases c4 : c = 4
      · rw [if_pos c4]
        simp (disch := omega) only [addR, ibN, clN, k1, k2, if_true]
        exact law_close (F := f_L_law_L18 L xs n (nI (k + 4))) (top_ask h (xs (k + 1)) (xs (k + 2))) ih'
      rw [if_neg c4]
      by_cases c5 : c = 5
      · rw [if_pos c5]
        simp (disch := omega) only [addR, ibN, clN, k1, if_true]
        exact law_close (F := f_L_law_L18 L xs n (nI (k + 4))) (top_want h (xs (k + 1))) ih'
      rw [if_neg c5]
      by_cases c6 : c = 6
      · rw [if_pos c6]
        simp (disch := omega) only [addR, ibN, clN, k1, if_true]
        exact law_close (F := f_L_law_L18 L xs n (nI (k + 4))) (top_finish h (xs (k + 1))) ih'
      rw [if_neg c6]
      by_cases c7 : c = 7
      · rw [if_pos c7]
        simp (disch := omega) only [addR]
        exact law_close (F := f_L_law_L18 L xs n (nI (k + 4))) (top_begin h) ih'
      rw [if_neg c7]
      by_cases c8 : c = 8
      · rw [if_pos c8]
        simp (disch := omega) only [addR, ibN, clN, k1, if_true]
        exact law_close (F := f_L_law_L18 L xs n (nI (k + 4))) (top_step h (xs (k + 1))) ih'
      rw [if_neg c8]
      by_cases c9 : c = 9
      · rw [if_pos c9]
        simp (disch := omega) only [addR]
        exact law_close (F := f_L_law_L18 L xs n (nI (k + 4))) (top_all h) ih'
      rw [if_neg c9]
      by_cases c10 : c = 10
      · rw [if_pos c10]
        simp (disch := omega) only [addR, ibN, clN, k1, if_true]
        exact law_close (F := f_L_law_L18 L xs n (nI (k + 4))) (topSet_ h (xs (k + 1))) ih'
      rw [if_neg c10]
      by_cases c11 : c = 11
      · rw [if_pos c11]
        simp (disch := omega) only [addR, ibN, clN, k1, k2, if_true]
        exact law_close (F := f_L_law_L18 L xs n (nI (k + 4))) (top_objectOf h (xs (k + 1)) (xs (k + 2))) ih'
      rw [if_neg c11]
      by_cases c12 : c = 12
      · rw [if_pos c12]
        simp (disch := omega) only [addR, ibN, clN, k1, k2, if_true]
        exact law_close (F := f_L_law_L18 L xs n (nI (k + 4))) (top_refers h (xs (k + 1)) (xs (k + 2))) ih'
      rw [if_neg c12]
      by_cases c13 : c = 13
      · rw [if_pos c13]
        simp (disch := omega) only [addR, ibN, clN, k1, if_true]
        exact law_close (F := f_L_law_L18 L xs n (nI (k + 4))) (top_grey h (xs (k + 1))) ih'
      rw [if_neg c13]
      by_cases c14 : c = 14
      · rw [if_pos c14]
        simp (disch := omega) only [addR, ibN, clN, k1, if_true]
        exact law_close (F := f_L_law_L18 L xs n (nI (k + 4))) (top_objects h (xs (k + 1))) ih'
      rw [if_neg c14]
      by_cases c15 : c = 15
      · rw [if_pos c15]
        simp (disch := omega) only [addR, ibN, clN, k1, if_true]
        exact law_close (F := f_L_law_L18 L xs n (nI (k + 4))) (top_count (by omega) h (xs (k + 1))) ih'
      rw [if_neg c15]
      by_cases c16 : c = 16
      · rw [if_pos c16]
        simp (disch := omega) only [addR, ibN, clN, k1, if_true]
        exact law_close (F := f_L_law_L18 L xs n (nI (k + 4))) (top_far h (xs (k + 1))) ih'
      rw [if_neg c16]
      by_cases c17 : c = 17
      · rw [if_pos c17]
        simp (disch := omega) only [addR, ibN, clN, k1, if_true]
        exact law_close (F := f_L_law_L18 L xs n (nI (k + 4))) (top_hangs h (xs (k + 1))) ih'
      rw [if_neg c17]
      by_cases c18 : c = 18
      · rw [if_pos c18]
        simp (disch := omega) only [addR]
        exact law_close (F := f_L_law_L18 L xs n (nI (k + 4))) (top_wouldGo h) ih'
      rw [if_neg c18]
      by_cases c19 : c = 19
      · rw [if_pos c19]
        simp (disch := omega) only [addR]
        exact law_close (F := f_L_law_L18 L xs n (nI (k + 4))) (top_late h) ih'
      rw [if_neg c19]
      by_cases c20 : c = 20
      · rw [if_pos c20]
        simp (disch := omega) only [addR]
        exact law_close (F := f_L_law_L18 L xs n (nI (k + 4))) (top_keep h) ih'
      rw [if_neg c20]
      by_cases c21 : c = 21
      · rw [if_pos c21]
        simp (disch := omega) only [addR]
        exact law_close (F := f_L_law_L18 L xs n (nI (k + 4))) (top_restore h) ih'
      rw [if_neg c21]
      by_cases c22 : c = 22
      · rw [if_pos c22]
        simp (disch := omega) only [addR]
        exact law_close (F := f_L_law_L18 L xs n (nI (k + 4))) (top_undo h) ih'
      rw [if_neg c22]
      by_cases c23 : c = 23
      · rw [if_pos c23]
        simp (disch := omega) only [addR, ibN, clN, k1, if_true]
        exact law_close (F := f_L_law_L18 L xs n (nI (k + 4))) (top_type h (xs (k + 1))) ih'
      rw [if_neg c23]
      by_cases c24 : c = 24
      · rw [if_pos c24]
        simp (disch := omega) only [addR]
        exact law_close (F := f_L_law_L18 L xs n (nI (k + 4))) (top_clearText h) ih'
      rw [if_neg c24]
      by_cases c25 : c = 25
      · rw [if_pos c25]
        simp (disch := omega) only [addR, ibN, clN, k1, if_true]
        exact law_close (F := f_L_law_L18 L xs n (nI (k + 4))) (top_fault h (xs (k + 1))) ih'
      rw [if_neg c25]
      by_cases c26 : c = 26
      · rw [if_pos c26]
        simp (disch := omega) only [addR]
        exact law_close (F := f_L_law_L18 L xs n (nI (k + 4))) (top_play h) ih'
      rw [if_neg c26]
      simp only [addR]
      exact ih' t m T L' (RelT_mono (by omega) h)
    · refine ⟨(1, (t, m)), ?_, rfl⟩
      have hs : (Int32.ofNat L) - 4 < nI k := by
        rw [Int32.lt_iff_toInt_lt, show (nI k).toInt = (k : Int) from Int32.toInt_ofNat_of_lt (by omega)]
        by_cases h4 : 4 ≤ L
        · have e : (Int32.ofNat L) - 4 = nI (L - 4) := nI_sub (a := L) (b := 4) h4
          rw [e, show (nI (L - 4)).toInt = ((L - 4 : Nat) : Int) from Int32.toInt_ofNat_of_lt (by omega)]
          omega
        · have : L = 0 ∨ L = 1 ∨ L = 2 ∨ L = 3 := by omega
          rcases this with rfl | rfl | rfl | rfl
          · rw [show ((Int32.ofNat 0) - 4).toInt = -4 by decide]; omega
          · rw [show ((Int32.ofNat 1) - 4).toInt = -3 by decide]; omega
          · rw [show ((Int32.ofNat 2) - 4).toInt = -2 by decide]; omega
          · rw [show ((Int32.ofNat 3) - 4).toInt = -1 by decide]; omega
      rw [if_pos hs]
