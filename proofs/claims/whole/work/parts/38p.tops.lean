/-! PURE: the calls of the eight states -/
theorem RelT_mono {t : TT} {m : St} {B B' L : Nat} {T : Nat → Int32} (hB : B ≤ B') (h : RelT t m B T L) : RelT t m B' T L := by
  obtain ⟨r1, r2, r3, r4, r5, r6, r7, r8, r9, f, s, hf, hs, h1, h2, h3, hH⟩ := h
  exact ⟨r1, r2, r3, r4, r5, r6, Sim_mono hB r7, r8, r9.imp id (fun q => ⟨q.1, Sim_mono hB q.2⟩), f, s, hf, hs, h1, h2, h3, fun i hi => Sim_mono hB (hH i hi)⟩
def Top (B : Nat) (co : Option (Int32 × TT)) (mo : Option (Int32 × St)) : Prop := ∃ v t' m' T' L', co = some (v, t') ∧ mo = some (v, m') ∧ RelT t' m' (B + 64) T' L'
theorem mix_sim {t : TT} {m : St} {B L : Nat} {T : Nat → Int32} (h : RelT t m B T L) : Sim (mix t 0) (m.2 0) B := Sim_lo (mix_hi t 0) h.2.2.2.2.2.2.1
theorem put_rel {t : TT} {m : St} {B L : Nat} {T : Nat → Int32} (h : RelT t m B T L) : RelT (put t 0 (mix t 0)) m B T L := by
  have hm := mix_sim h
  obtain ⟨r1, r2, r3, r4, r5, r6, r7, r8, r9, f, s, hf, hs, h1, h2, h3, hH⟩ := h
  refine ⟨r1, r2, r3, r4, r5, r6, hm, r8, r9, f, s, hf, hs, h1, h2, h3, fun i hi => ?_⟩
  show Sim (if 3 + (f + i) % 5 = 0 then _ else t.1 (3 + (f + i) % 5)) _ B
  rw [if_neg (by omega)]
  exact hH i hi
theorem qry_top {t : TT} {m : St} {B L : Nat} {T : Nat → Int32} (h : RelT t m B T L) {c mo : Option (Int32 × St)} (hq : Qry (mix t 0) m c mo) : Top B (c.bind fun o1 => some (o1.1, put t 0 o1.2)) mo := by
  obtain ⟨v, e1, e2⟩ := hq
  exact ⟨v, _, m, T, L, by rw [e1]; rfl, e2, RelT_mono (by omega) (put_rel h)⟩
theorem chg_Top {t : TT} {m : St} {B L : Nat} {T : Nat → Int32} (h : RelT t m B T L) (c : St → Option (Int32 × St)) (mo : Option (Int32 × St)) (hc : ∀ w m', Sim w (m.2 0) B → f_X7_changes m = some (0, m') → m'.2 0 = m.2 0 → ChS w m m' B (c w) mo) :
    Top B ((f_X2_note t).bind fun o1 => (c (mix o1.2 0)).bind fun o3 => (f_X2_settle o3.1 (put o1.2 0 o3.2)).bind fun o5 => some (o5.1, o5.2)) mo := by
  obtain ⟨v, t', m', e1, e2, e3⟩ := chg_top h c mo hc
  exact ⟨v, t', m', T, L, e1, e2, RelT_mono (by omega) e3⟩
theorem top_objectOf {t : TT} {m : St} {B L : Nat} {T : Nat → Int32} (h : RelT t m B T L) (x y : Int32) : Top B (f_X6_objectOf x y t) (f_X7_objectOf x y m) := by
  obtain ⟨rw, li, hS⟩ := mix_sim h
  exact qry_top h (tellObject_sim hS.1 x y)
theorem top_refers {t : TT} {m : St} {B L : Nat} {T : Nat → Int32} (h : RelT t m B T L) (x y : Int32) : Top B (f_X6_refers x y t) (f_X7_refers x y m) := by
  obtain ⟨rw, li, hS⟩ := mix_sim h
  exact qry_top h (refers_sim hS.1 x y)
theorem top_objects {t : TT} {m : St} {B L : Nat} {T : Nat → Int32} (h : RelT t m B T L) (x : Int32) : Top B (f_X6_objects x t) (f_X7_objects x m) := by
  obtain ⟨rw, li, hS⟩ := mix_sim h
  exact qry_top h (tellSet_sim hS.1 x)
theorem top_grey {t : TT} {m : St} {B L : Nat} {T : Nat → Int32} (h : RelT t m B T L) (x : Int32) : Top B (f_X6_grey x t) (f_X7_grey x m) := by
  by_cases hx : x < 0
  · refine ⟨-11, t, m, T, L, ?_, ?_, RelT_mono (by omega) h⟩
    · unfold f_X6_grey; rw [if_pos hx]
    · unfold f_X7_grey; rw [if_pos hx]
  · obtain ⟨rw, li, hS⟩ := mix_sim h
    obtain ⟨v, e1, e2⟩ := grey_sim hS.1 x hx
    refine ⟨v, put t 0 (mix t 0), m, T, L, ?_, e2, RelT_mono (by omega) (put_rel h)⟩
    unfold f_X6_grey
    rw [if_neg hx]
    revert e1
    generalize f_X3_at_6 x (mix t 0) = o
    intro e1
    cases o with
    | none => cases e1
    | some q =>
      simp only [Option.bind_some] at e1 ⊢
      by_cases z : q.1 = -1
      · rw [if_pos z] at e1 ⊢
        injection e1 with e1; injection e1 with a b
        rw [a, b]
      · rw [if_neg z] at e1 ⊢
        injection e1 with e1; injection e1 with a b
        rw [a, b]
theorem top_count {t : TT} {m : St} {B L : Nat} {T : Nat → Int32} (hB : B < 2147483648) (h : RelT t m B T L) (x : Int32) : Top B (f_X6_count x t) (f_X7_count x m) := by
  have h' := h
  obtain ⟨r1, r2, r3, r4, r5, r6, r7, r8, r9, f, s, hf, hs, h1, h2, h3, hH⟩ := h'
  by_cases x10 : x = 10
  · subst x10
    refine ⟨nI s, t, m, T, L, ?_, ?_, RelT_mono (by omega) h⟩
    · unfold f_X6_count; rw [if_pos rfl, h2]
    · unfold f_X7_count
      rw [if_neg (by decide), if_neg (by decide), if_neg (by decide), if_neg (by decide), if_neg (by decide), if_neg (by decide), if_neg (by decide), if_neg (by decide), if_neg (by decide), if_neg (by decide), if_pos rfl, h3]
  by_cases x11 : x = 11
  · subst x11
    refine ⟨nI L, t, m, T, L, ?_, ?_, RelT_mono (by omega) h⟩
    · unfold f_X6_count; rw [if_neg (by decide), if_pos rfl, r2]
    · unfold f_X7_count
      rw [if_neg (by decide), if_neg (by decide), if_neg (by decide), if_neg (by decide), if_neg (by decide), if_neg (by decide), if_neg (by decide), if_neg (by decide), if_neg (by decide), if_neg (by decide), if_neg (by decide), if_pos rfl, r4]
  by_cases x12 : x = 12
  · subst x12
    refine ⟨if t.2.2 0 = 0 then 0 else 1, t, m, T, L, ?_, ?_, RelT_mono (by omega) h⟩
    · unfold f_X6_count
      rw [if_neg (by decide), if_neg (by decide), if_pos rfl]
      split <;> rfl
    · unfold f_X7_count
      rw [if_neg (by decide), if_neg (by decide), if_neg (by decide), if_neg (by decide), if_neg (by decide), if_neg (by decide), if_neg (by decide), if_neg (by decide), if_neg (by decide), if_neg (by decide), if_neg (by decide), if_neg (by decide), if_pos rfl, r8]
      split <;> rfl
  obtain ⟨rw, li, hS⟩ := mix_sim h
  have := qry_top h (count_sim hB hS.1 x x10 x11 x12)
  unfold f_X6_count
  rw [if_neg x10, if_neg x11, if_neg x12]
  exact this
theorem top_late {t : TT} {m : St} {B L : Nat} {T : Nat → Int32} (h : RelT t m B T L) : Top B (f_X6_late t) (f_X7_late m) := by
  obtain ⟨rw, li, hS⟩ := mix_sim h
  obtain ⟨X, v, e1, e2, e3⟩ := late_sim hS.1
  refine ⟨v, put t 0 (mix t 0), m, T, L, ?_, e3, RelT_mono (by omega) (put_rel h)⟩
  unfold f_X6_late
  rw [e1]
  simp only [Option.bind_some, e_pop, e2]
theorem top_far {t : TT} {m : St} {B L : Nat} {T : Nat → Int32} (h : RelT t m B T L) (x : Int32) : Top B (f_X6_far x t) (f_X7_far x m) := by
  have h1 := put_rel h
  have h2 := put_rel h1
  obtain ⟨rw, li, hS⟩ := mix_sim h
  obtain ⟨rw1, li1, hS1⟩ := mix_sim h1
  have hp1 : (mix (put t 0 (mix t 0)) 0).1 13 = (mix t 0).1 13 := rfl
  rcases hasI_iff (p := (mix t 0).1 13) (x := x) with ⟨hx, k, hk, rfl, hp⟩ | ⟨hx, _⟩
  · obtain ⟨v, e1, e2⟩ := far_sim hS1.1 hk hp
    refine ⟨_, put (put t 0 (mix t 0)) 0 (mix (put t 0 (mix t 0)) 0), m, T, L, ?_, e2, RelT_mono (by omega) h2⟩
    unfold f_X6_far
    rw [e_has, hx]
    simp only [Option.bind_some, oz, if_false, e1]
    split <;> rfl
  · refine ⟨-11, put t 0 (mix t 0), m, T, L, ?_, ?_, RelT_mono (by omega) h1⟩
    · unfold f_X6_far
      rw [e_has, hx]
      simp only [Option.bind_some, if_true]
    · unfold f_X7_far
      simp only [e_isObject hS.1.2.1, hx, Option.bind_some, if_true]
theorem top_hangs {t : TT} {m : St} {B L : Nat} {T : Nat → Int32} (h : RelT t m B T L) (x : Int32) : Top B (f_X6_hangs x t) (f_X7_hangs x m) := by
  have h1 := put_rel h
  have h2 := put_rel h1
  have h3 := put_rel h2
  have h4 := put_rel h3
  obtain ⟨rw, li, hS⟩ := mix_sim h
  obtain ⟨rw1, li1, hS1⟩ := mix_sim h1
  rcases hasI_iff (p := (mix t 0).1 13) (x := x) with ⟨hx, k, hk, rfl, hp⟩ | ⟨hx, _⟩
  · obtain ⟨Q, r, R, e1, e2, e3, e4⟩ := hangs_sim hS1.1 hk hp
    have m2 : ∀ t : TT, mix (put t 0 (mix t 0)) 0 = mix t 0 := by
      intro t
      refine Prod.ext ?_ ?_
      · funext r
        show (if r < 10 then (if r < 10 then t.2.1.1 r else (t.1 0).1 r) else (if r < 10 then t.2.1.1 r else (t.1 0).1 r)) = if r < 10 then t.2.1.1 r else (t.1 0).1 r
        split <;> rfl
      · funext a
        show (if a = 0 then (if (0 : Nat) = 0 then t.2.1.2 0 else (t.1 0).2 0) else (if a = 0 then t.2.1.2 0 else (t.1 0).2 a)) = if a = 0 then t.2.1.2 0 else (t.1 0).2 a
        split <;> rfl
    have pp : ∀ t : TT, put (put t 0 (mix t 0)) 0 (mix t 0) = put t 0 (mix t 0) := by
      intro t
      refine Prod.ext ?_ rfl
      funext j
      show (if j = 0 then mix t 0 else if j = 0 then mix t 0 else t.1 j) = if j = 0 then mix t 0 else t.1 j
      split <;> rfl
    rw [m2] at e1 e2 e3
    refine ⟨_, put t 0 (mix t 0), m, T, L, ?_, e4, RelT_mono (by omega) h1⟩
    unfold f_X6_hangs
    rw [e_has, hx]
    simp only [Option.bind_some, oz, if_false, m2, e1, e_bit, pp]
    by_cases z : Q &&& bI (nI k) = 0
    · rw [if_pos z, if_pos z]
    · rw [if_neg z, if_neg z]
      simp only [m2, e2, Option.bind_some, e3, pp]
  · refine ⟨-11, put t 0 (mix t 0), m, T, L, ?_, ?_, RelT_mono (by omega) h1⟩
    · unfold f_X6_hangs
      rw [e_has, hx]
      simp only [Option.bind_some, if_true]
    · unfold f_X7_hangs
      simp only [e_isObject hS.1.2.1, hx, Option.bind_some, if_true]
