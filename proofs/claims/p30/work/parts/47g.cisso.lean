/-! PURE: the law's look at the whole class, isSo -/
section CV
variable {m : St} {s : Nat → Int32}
theorem cv_0 {w : St} {B : Nat} {ex rw0 li : List Nat} (hS : SimB w s B ex rw0 li) : f_X7_count 0 (mkM s) = some (nI (cnt (tb (w.1 13)) 24), mkM s) := by
  unfold f_X7_count
  rw [if_pos rfl, those_p (m := mkM s) hS, Option.bind_some]
  dsimp only
  rw [e_ones, Option.bind_some]
theorem cv_1 (hE : En m s) : f_X7_count 1 (mkM s) = some (m.2 0 0, mkM s) := by
  unfold f_X7_count
  rw [if_neg (show ¬ (1 : Int32) = 0 by decide), if_pos (show (1 : Int32) = 1 from rfl), if_pos (show ib 226 235 by decide), show (226 : Int32).toNatClampNeg = 226 by decide, mk_0, (En_g hE).1]
theorem cv_2 (hE : En m s) : f_X7_count 2 (mkM s) = some (m.2 0 2, mkM s) := by
  unfold f_X7_count
  rw [if_neg (show ¬ (2 : Int32) = 0 by decide), if_neg (show ¬ (2 : Int32) = 1 by decide), if_pos (show (2 : Int32) = 2 from rfl), if_pos (show ib ((228 + 2) - 2) 235 by decide), show ((228 + 2) - 2 : Int32).toNatClampNeg = 228 by decide, mk_0, (En_g hE).2.2.1]
theorem cv_3 (hE : En m s) : f_X7_count 3 (mkM s) = some (m.2 0 3, mkM s) := by
  unfold f_X7_count
  rw [if_neg (show ¬ (3 : Int32) = 0 by decide), if_neg (show ¬ (3 : Int32) = 1 by decide), if_neg (show ¬ (3 : Int32) = 2 by decide), if_pos (show (3 : Int32) = 3 from rfl), if_pos (show ib ((228 + 3) - 2) 235 by decide), show ((228 + 3) - 2 : Int32).toNatClampNeg = 229 by decide, mk_0, (En_g hE).2.2.2.1]
theorem cv_4 (hE : En m s) : f_X7_count 4 (mkM s) = some (m.2 0 4, mkM s) := by
  unfold f_X7_count
  rw [if_neg (show ¬ (4 : Int32) = 0 by decide), if_neg (show ¬ (4 : Int32) = 1 by decide), if_neg (show ¬ (4 : Int32) = 2 by decide), if_neg (show ¬ (4 : Int32) = 3 by decide), if_pos (show (4 : Int32) = 4 from rfl), if_pos (show ib ((228 + 4) - 2) 235 by decide), show ((228 + 4) - 2 : Int32).toNatClampNeg = 230 by decide, mk_0, (En_g hE).2.2.2.2.1]
theorem cv_5 (hE : En m s) : f_X7_count 5 (mkM s) = some (m.2 0 5, mkM s) := by
  unfold f_X7_count
  rw [if_neg (show ¬ (5 : Int32) = 0 by decide), if_neg (show ¬ (5 : Int32) = 1 by decide), if_neg (show ¬ (5 : Int32) = 2 by decide), if_neg (show ¬ (5 : Int32) = 3 by decide), if_neg (show ¬ (5 : Int32) = 4 by decide), if_pos (show (5 : Int32) = 5 from rfl), if_pos (show ib ((228 + 5) - 2) 235 by decide), show ((228 + 5) - 2 : Int32).toNatClampNeg = 231 by decide, mk_0, (En_g hE).2.2.2.2.2.1]
theorem cv_6 (hE : En m s) : f_X7_count 6 (mkM s) = some (m.2 0 9, mkM s) := by
  unfold f_X7_count
  rw [if_neg (show ¬ (6 : Int32) = 0 by decide), if_neg (show ¬ (6 : Int32) = 1 by decide), if_neg (show ¬ (6 : Int32) = 2 by decide), if_neg (show ¬ (6 : Int32) = 3 by decide), if_neg (show ¬ (6 : Int32) = 4 by decide), if_neg (show ¬ (6 : Int32) = 5 by decide), if_pos (show (6 : Int32) = 6 from rfl), if_pos (show ib 193 235 by decide), show (193 : Int32).toNatClampNeg = 193 by decide, mk_0, (En_g hE).2.2.2.2.2.2.2.2.2.1]
theorem cv_9 (hE : En m s) : f_X7_count 9 (mkM s) = some (m.2 0 8, mkM s) := by
  unfold f_X7_count
  rw [if_neg (show ¬ (9 : Int32) = 0 by decide), if_neg (show ¬ (9 : Int32) = 1 by decide), if_neg (show ¬ (9 : Int32) = 2 by decide), if_neg (show ¬ (9 : Int32) = 3 by decide), if_neg (show ¬ (9 : Int32) = 4 by decide), if_neg (show ¬ (9 : Int32) = 5 by decide), if_neg (show ¬ (9 : Int32) = 6 by decide), if_neg (show ¬ (9 : Int32) = 7 by decide), if_neg (show ¬ (9 : Int32) = 8 by decide), if_pos (show (9 : Int32) = 9 from rfl), if_pos (show ib 234 235 by decide), show (234 : Int32).toNatClampNeg = 234 by decide, mk_0, (En_g hE).2.2.2.2.2.2.2.2.1]
theorem cv_7 (hE : En m s) : f_X7_count 7 (mkM s) = some (if m.2 0 0 = 3 then m.2 0 1 else -14, mkM s) := by
  unfold f_X7_count
  rw [if_neg (show ¬ (7 : Int32) = 0 by decide), if_neg (show ¬ (7 : Int32) = 1 by decide), if_neg (show ¬ (7 : Int32) = 2 by decide), if_neg (show ¬ (7 : Int32) = 3 by decide), if_neg (show ¬ (7 : Int32) = 4 by decide), if_neg (show ¬ (7 : Int32) = 5 by decide), if_neg (show ¬ (7 : Int32) = 6 by decide), if_pos (show (7 : Int32) = 7 from rfl), if_pos ib226]
  simp only [c226, mk_0]
  rw [(En_g hE).1]
  by_cases q : m.2 0 0 = 3
  · rw [if_pos q, if_pos q, if_pos ib227, c227, (En_g hE).2.1 q]
  · rw [if_neg q, if_neg q]
theorem cv_8 (hE : En m s) : f_X7_count 8 (mkM s) = some (if m.2 0 2 = 0 then -14 else m.2 0 6, mkM s) := by
  have c228 : (228 : Int32).toNatClampNeg = 228 := by decide
  unfold f_X7_count
  rw [if_neg (show ¬ (8 : Int32) = 0 by decide), if_neg (show ¬ (8 : Int32) = 1 by decide), if_neg (show ¬ (8 : Int32) = 2 by decide), if_neg (show ¬ (8 : Int32) = 3 by decide), if_neg (show ¬ (8 : Int32) = 4 by decide), if_neg (show ¬ (8 : Int32) = 5 by decide), if_neg (show ¬ (8 : Int32) = 6 by decide), if_neg (show ¬ (8 : Int32) = 7 by decide), if_pos (show (8 : Int32) = 8 from rfl), if_pos (show ib 228 235 by decide)]
  simp only [c228, mk_0]
  rw [(En_g hE).2.2.1]
  by_cases q : m.2 0 2 = 0
  · rw [if_pos q, if_pos q]
  · rw [if_neg q, if_neg q, if_pos (show ib 232 235 by decide), show (232 : Int32).toNatClampNeg = 232 by decide, (En_g hE).2.2.2.2.2.2.1]
theorem cv_13 (s : Nat → Int32) : f_X7_count 13 (mkM s) = some (-11, mkM s) := by
  unfold f_X7_count
  rw [if_neg (show ¬ (13 : Int32) = 0 by decide), if_neg (show ¬ (13 : Int32) = 1 by decide), if_neg (show ¬ (13 : Int32) = 2 by decide), if_neg (show ¬ (13 : Int32) = 3 by decide), if_neg (show ¬ (13 : Int32) = 4 by decide), if_neg (show ¬ (13 : Int32) = 5 by decide), if_neg (show ¬ (13 : Int32) = 6 by decide), if_neg (show ¬ (13 : Int32) = 7 by decide), if_neg (show ¬ (13 : Int32) = 8 by decide), if_neg (show ¬ (13 : Int32) = 9 by decide), if_neg (show ¬ (13 : Int32) = 10 by decide), if_neg (show ¬ (13 : Int32) = 11 by decide), if_neg (show ¬ (13 : Int32) = 12 by decide)]
theorem gv_end (hE : En m s) : f_X7_grey (m.2 0 10) (mkM s) = some (-14, mkM s) ∨ m.2 0 10 < 0 := by
  by_cases q : m.2 0 10 < 0
  · exact Or.inr q
  · left
    unfold f_X7_grey
    simp only [c168]
    rw [if_neg q, if_pos ib168, mk_0, (En_g hE).2.2.2.2.2.2.2.2.2.2, if_neg Int32.lt_irrefl]
theorem gv_neg (s : Nat → Int32) : f_X7_grey (-1) (mkM s) = some (-11, mkM s) := by
  unfold f_X7_grey
  rw [if_pos (by decide)]
theorem ov_7 (hE : En m s) : f_X7_objects 7 (mkM s) = some (m.2 0 7, mkM s) := by
  unfold f_X7_objects
  rw [if_neg (show ¬ (7 : Int32) = 0 by decide), if_neg (show ¬ (7 : Int32) = 1 by decide), if_neg (show ¬ (7 : Int32) = 2 by decide), if_neg (show ¬ (7 : Int32) = 3 by decide), if_neg (show ¬ (7 : Int32) = 4 by decide), if_neg (show ¬ (7 : Int32) = 5 by decide), if_neg (show ¬ (7 : Int32) = 6 by decide), if_pos (show (7 : Int32) = 7 from rfl), if_pos (show ib 233 235 by decide), show (233 : Int32).toNatClampNeg = 233 by decide, mk_0, (En_g hE).2.2.2.2.2.2.2.1]
theorem ov_8 (s : Nat → Int32) : f_X7_objects 8 (mkM s) = some (-11, mkM s) := by
  unfold f_X7_objects
  rw [if_neg (show ¬ (8 : Int32) = 0 by decide), if_neg (show ¬ (8 : Int32) = 1 by decide), if_neg (show ¬ (8 : Int32) = 2 by decide), if_neg (show ¬ (8 : Int32) = 3 by decide), if_neg (show ¬ (8 : Int32) = 4 by decide), if_neg (show ¬ (8 : Int32) = 5 by decide), if_neg (show ¬ (8 : Int32) = 6 by decide), if_neg (show ¬ (8 : Int32) = 7 by decide)]
theorem ov_all {w : St} {B : Nat} {ex rw0 li : List Nat} (hS : SimB w s B ex rw0 li) {Q0 Q : Int32} (m3 : f_X7_rooted (-1) (mkM s) = some (Q0, mkM s)) (m4 : f_X7_reached (mkM s) = some (Q, mkM s)) {v : Nat → Int32} (q0 : v 0 = w.1 13) (q1 : v 1 = Q0) (q2 : v 2 = Q) (q3 : v 3 = whI w.1) (q4 : v 4 = w.1 16) (q5 : v 5 = w.1 17) (q6 : v 6 = w.1 14) : ∀ k, k < 7 → f_X7_objects (nI k) (mkM s) = some (v k, mkM s) := by
  obtain ⟨t3, t4, t5, t6⟩ := those_c (m := mkM s) hS
  intro k hk
  unfold f_X7_objects
  rcases (by omega : k = 0 ∨ k = 1 ∨ k = 2 ∨ k = 3 ∨ k = 4 ∨ k = 5 ∨ k = 6) with rfl | rfl | rfl | rfl | rfl | rfl | rfl
  · rw [if_pos (show nI 0 = 0 from rfl), those_p (m := mkM s) hS, Option.bind_some, q0]
  · rw [if_neg (show ¬ nI 1 = 0 by decide), if_pos (show nI 1 = 1 from rfl), m3, Option.bind_some, q1]
  · rw [if_neg (show ¬ nI 2 = 0 by decide), if_neg (show ¬ nI 2 = 1 by decide), if_pos (show nI 2 = 2 from rfl), m4, Option.bind_some, q2]
  · rw [if_neg (show ¬ nI 3 = 0 by decide), if_neg (show ¬ nI 3 = 1 by decide), if_neg (show ¬ nI 3 = 2 by decide), if_pos (show nI 3 = 3 from rfl), show (nI 3 - 3 : Int32) = 0 by decide, t3, Option.bind_some, q3]
  · rw [if_neg (show ¬ nI 4 = 0 by decide), if_neg (show ¬ nI 4 = 1 by decide), if_neg (show ¬ nI 4 = 2 by decide), if_neg (show ¬ nI 4 = 3 by decide), if_pos (show nI 4 = 4 from rfl), show (nI 4 - 3 : Int32) = 1 by decide, t4, Option.bind_some, q4]
  · rw [if_neg (show ¬ nI 5 = 0 by decide), if_neg (show ¬ nI 5 = 1 by decide), if_neg (show ¬ nI 5 = 2 by decide), if_neg (show ¬ nI 5 = 3 by decide), if_neg (show ¬ nI 5 = 4 by decide), if_pos (show nI 5 = 5 from rfl), show (nI 5 - 3 : Int32) = 2 by decide, t5, Option.bind_some, q5]
  · rw [if_neg (show ¬ nI 6 = 0 by decide), if_neg (show ¬ nI 6 = 1 by decide), if_neg (show ¬ nI 6 = 2 by decide), if_neg (show ¬ nI 6 = 3 by decide), if_neg (show ¬ nI 6 = 4 by decide), if_neg (show ¬ nI 6 = 5 by decide), if_pos (show nI 6 = 6 from rfl), t6, Option.bind_some, q6]
end CV
/-- the grey ones, and the places past the end -/
theorem gch_ok {t : TT} {m : St} {s : Nat → Int32} {B : Nat} (h : RelC t s B) (hE : En m s) (h10 : ¬ m.2 0 10 < 0) (v : Nat → Int32) : ∃ t', ((f_X6_grey (m.2 0 10) t).bind fun o103 => (if o103.1 = (-14) then (f_X6_grey (-1) o103.2).bind fun o106 => (if o106.1 = (-11) then (f_X6_objects 7 o106.2).bind fun o109 => if ib 7 11 then (if o109.1 = (m.2 0 7) then (f_X6_objects 8 o109.2).bind fun o113 => (if o113.1 = (-11) then some ((1 : Int32), (o113.2, (m, v))) else some ((0 : Int32), (o113.2, (m, v)))) else some ((0 : Int32), (o109.2, (m, v)))) else none else some ((0 : Int32), (o106.2, (m, v)))) else some ((0 : Int32), (o103.2, (m, v))))) = some (1, (t', (m, v))) ∧ RelC t' s B := by
  obtain ⟨t1, a1, r1⟩ := Q_is (C_grey h (m.2 0 10)) ((gv_end hE).resolve_right h10)
  obtain ⟨t2, a2, r2⟩ := Q_is (C_grey r1 (-1)) (gv_neg s)
  obtain ⟨t3, a3, r3⟩ := Q_is (C_objects r2 7) (ov_7 hE)
  obtain ⟨t4, a4, r4⟩ := Q_is (C_objects r3 8) (ov_8 s)
  refine ⟨t4, ?_, r4⟩
  rw [a1, Option.bind_some]
  dsimp only
  rw [if_pos rfl, a2, Option.bind_some]
  dsimp only
  rw [if_pos rfl, a3, Option.bind_some]
  dsimp only
  rw [if_pos i11_7, if_pos rfl, a4, Option.bind_some]
  dsimp only
  rw [if_pos rfl]
theorem T_isSo {t : TT} {m : St} {s : Nat → Int32} {B : Nat} (hB : B < 2147483648) (h : RelC t s B) (hE : En m s) (hbal : Bal s) : ∃ t', f_L_isSo (t, m) = some (1, (t', m)) ∧ RelC t' s B := by
  obtain ⟨rw0, li, hS, hC⟩ := h.2.2
  have hA := hS.1
  have hl := hS.2.2.2.2.2.2.1
  have hs168 : s 168 = nI rw0.length := hl.2.1.trans hl.1.1
  have h10 : m.2 0 10 = nI rw0.length := (En_g hE).2.2.2.2.2.2.2.2.2.2.symm.trans hs168
  have h10n : ¬ m.2 0 10 < 0 := by rw [h10]; exact nI_pos (by have := hl.1.2.1; omega)
  have hg0 : m.2 0 0 = (t.1 0).1 15 := (En_g hE).1.symm.trans hS.2.2.2.2.2.2.2.2.2.2.2.2.1.1
  have hmany : s 229 - s 230 = nI (cnt (tb ((t.1 0).1 13)) 24) := by
    rw [hbal]
    unfold cntP
    rw [cnt_congr (fun k hk => ?_)]
    rw [hS.2.1 k hk]
    cases tb ((t.1 0).1 13) k <;> rfl
  obtain ⟨t1, e1, r1⟩ := T_areObjects h hE
  obtain ⟨v', e2, p0, p3, p4, p5, p6⟩ := isL29 hS hE 1 t1 BIG 0 (fun _ => 0) (by omega) (by unfold BIG; omega) (Pb_0 _) (Pb_0 _) (Pb_0 _) (Pb_0 _) (Pb_0 _)
  have e2 : f_L_isSo_L29 BIG 1 0 0 (t1, (m, fun _ => 0)) = some (nI (cnt (tb ((t.1 0).1 13)) 24), (t1, (m, v'))) := e2
  have p0 := Pb_24 p0 hA.1
  have p3 := Pb_24 p3 (S24_wh hA.1)
  have p4 := Pb_24 p4 hA.2.2.1
  have p5 := Pb_24 p5 hA.2.2.2.1
  have p6 := Pb_24 p6 hA.2.1
  obtain ⟨Q0, e3, m3, _, _⟩ := T_rooted (M := mkM s) hS hE
  obtain ⟨Q, e4, m4, s4, sub⟩ := T_reached (M := mkM s) hS hE
  have hv : ∃ v, v = upd (upd v' 1 Q0) 2 Q := ⟨_, rfl⟩
  obtain ⟨v, hv⟩ := hv
  have v0 : v 0 = (t.1 0).1 13 := by rw [hv, upd_ne (by decide), upd_ne (by decide)]; exact p0
  have v1 : v 1 = Q0 := by rw [hv, upd_ne (by decide), upd_eq]
  have v2 : v 2 = Q := by rw [hv, upd_eq]
  have v3 : v 3 = whI (t.1 0).1 := by rw [hv, upd_ne (by decide), upd_ne (by decide)]; exact p3
  have v4 : v 4 = (t.1 0).1 16 := by rw [hv, upd_ne (by decide), upd_ne (by decide)]; exact p4
  have v5 : v 5 = (t.1 0).1 17 := by rw [hv, upd_ne (by decide), upd_ne (by decide)]; exact p5
  have v6 : v 6 = (t.1 0).1 14 := by rw [hv, upd_ne (by decide), upd_ne (by decide)]; exact p6
  obtain ⟨t2, a5, r2⟩ := isL204 (m := m) (ov_all hS m3 m4 v0 v1 v2 v3 v4 v5 v6) (nI (cnt (tb ((t.1 0).1 13)) 24)) BIG 0 t1 (by omega) (by unfold BIG; omega) r1
  have a5 : f_L_isSo_L204 BIG 1 (nI (cnt (tb ((t.1 0).1 13)) 24)) 0 (t1, (m, v)) = some (1, (t2, (m, v))) := a5
  obtain ⟨t3, a6, r3⟩ := isL246 hE (v := v) (nI (cnt (tb ((t.1 0).1 13)) 24)) BIG 0 t2 (by omega) (by unfold BIG; omega) r2
  have a6 : f_L_isSo_L246 BIG 1 (nI (cnt (tb ((t.1 0).1 13)) 24)) 0 (t2, (m, v)) = some (1, (t3, (m, v))) := a6
  obtain ⟨t4, a7, r4⟩ := isL307 hE hl.1.2.1 hs168 (v := v) (nI (cnt (tb ((t.1 0).1 13)) 24)) BIG 0 t3 (by omega) (by have := hl.1.2.1; unfold BIG; omega) r3
  have a7 : f_L_isSo_L307 BIG 1 (nI (cnt (tb ((t.1 0).1 13)) 24)) 0 (t3, (m, v)) = some (1, (t4, (m, v))) := a7
  obtain ⟨t5, a8, r5⟩ := gch_ok r4 hE h10n v
  obtain ⟨t6, e6, r6⟩ := Q_is (C_count hB r5 0 (by decide) (by decide) (by decide)) (cv_0 hS)
  obtain ⟨t7, e7, r7⟩ := Q_is (C_count hB r6 1 (by decide) (by decide) (by decide)) (cv_1 hE)
  obtain ⟨t8, e8, r8⟩ := Q_is (C_count hB r7 2 (by decide) (by decide) (by decide)) (cv_2 hE)
  obtain ⟨t9, e9, r9⟩ := Q_is (C_count hB r8 3 (by decide) (by decide) (by decide)) (cv_3 hE)
  obtain ⟨t10, e10, r10⟩ := Q_is (C_count hB r9 4 (by decide) (by decide) (by decide)) (cv_4 hE)
  obtain ⟨t11, e11, r11⟩ := Q_is (C_count hB r10 5 (by decide) (by decide) (by decide)) (cv_5 hE)
  obtain ⟨t12, e12, r12⟩ := Q_is (C_count hB r11 6 (by decide) (by decide) (by decide)) (cv_6 hE)
  obtain ⟨t13, e13, r13⟩ := Q_is (C_count hB r12 7 (by decide) (by decide) (by decide)) (cv_7 hE)
  obtain ⟨t14, e14, r14⟩ := Q_is (C_count hB r13 8 (by decide) (by decide) (by decide)) (cv_8 hE)
  obtain ⟨t15, e15, r15⟩ := Q_is (C_count hB r14 9 (by decide) (by decide) (by decide)) (cv_9 hE)
  have f11 := C_count11 r15
  obtain ⟨t16, f16, r16⟩ := Q_is (C_count hB r15 3 (by decide) (by decide) (by decide)) (cv_3 hE)
  obtain ⟨t17, f17, r17⟩ := Q_is (C_count hB r16 4 (by decide) (by decide) (by decide)) (cv_4 hE)
  have hsub : Q &&& (v 0 ^^^ (-1)) = 0 := by
    rw [v0]
    apply S24_ext (S24_and s4) S24_0
    intro k hk
    rw [tb_and, tb_not _ (by omega), tb_0]
    cases z : tb Q k
    · rfl
    · rw [sub k hk z]; rfl
  have x7 : (if m.2 0 0 = 3 then (if ib 1 11 then some (m.2 0 1) else none) else some ((-14 : Int32))) = some (if m.2 0 0 = 3 then m.2 0 1 else -14) := by
    by_cases q : m.2 0 0 = 3
    · rw [if_pos q, if_pos q, if_pos i11_1]
    · rw [if_neg q, if_neg q]
  have x8 : (if m.2 0 2 = 0 then some ((-14 : Int32)) else (if ib 6 11 then some (m.2 0 6) else none)) = some (if m.2 0 2 = 0 then -14 else m.2 0 6) := by
    by_cases q : m.2 0 2 = 0
    · rw [if_pos q, if_pos q]
    · rw [if_neg q, if_neg q, if_pos i11_6]
  have hm2 : m.2 0 3 - m.2 0 4 = nI (cnt (tb ((t.1 0).1 13)) 24) := by
    rw [← (En_g hE).2.2.2.1, ← (En_g hE).2.2.2.2.1]; exact hmany
  refine ⟨t17, ?_, r17⟩
  unfold f_L_isSo
  rw [e1, Option.bind_some]
  dsimp only
  rw [e2, Option.bind_some]
  dsimp only
  rw [e3, Option.bind_some, if_pos i7_1]
  dsimp only
  rw [e4, Option.bind_some, if_pos i7_2]
  simp only [cl_1, cl_2]
  rw [← hv, a5, Option.bind_some]
  dsimp only
  rw [a6, Option.bind_some]
  dsimp only
  rw [a7, Option.bind_some]
  dsimp only
  rw [if_neg (show ¬ (1 : Int32) = 0 by decide), if_pos i7_2, if_pos i7_0]
  simp only [cl_0, cl_1, cl_2, cl_3, cl_4, cl_5, cl_6, cl_7, cl_8, cl_9, cl_10]
  rw [v2, if_pos hsub, if_pos i11_0]
  have mid : ∀ G : Option (Int32 × (TT × (St × (Nat → Int32)))), G = some (1, (t5, (m, v))) → (if (0 : Int32) < m.2 0 0 then G else if ib 4 7 then (if v 4 = 0 then if ib 5 7 then (if v 5 = 0 then G else some ((0 : Int32), (t4, (m, v)))) else none else some ((0 : Int32), (t4, (m, v)))) else none) = some (1, (t5, (m, v))) := by
    intro G hG
    by_cases q : (0 : Int32) < m.2 0 0
    · rw [if_pos q, hG]
    · have z : (t.1 0).1 15 = 0 := by
        rw [hg0] at q
        rcases hS.2.2.2.2.2.2.2.2.2.2.2.2.2.1 with a | a | a | a
        · exact a
        · rw [a] at q; exact absurd (by decide) q
        · rw [a] at q; exact absurd (by decide) q
        · rw [a] at q; exact absurd (by decide) q
      obtain ⟨c1, c2⟩ := hC.1 z
      rw [if_neg q, if_pos i7_4, if_pos (v4.trans c1), if_pos i7_5, if_pos (v5.trans c2), hG]
  rw [if_pos i11_10]
  rw [mid _ a8, Option.bind_some]
  dsimp only
  rw [if_neg (show ¬ (1 : Int32) = 0 by decide), e6, Option.bind_some]
  dsimp only
  rw [if_pos rfl, e7, Option.bind_some]
  dsimp only
  rw [if_pos i11_0, if_pos rfl, e8, Option.bind_some]
  dsimp only
  rw [if_pos i11_2, if_pos rfl, e9, Option.bind_some]
  dsimp only
  rw [if_pos i11_3, if_pos rfl, e10, Option.bind_some]
  dsimp only
  rw [if_pos i11_4, if_pos rfl, e11, Option.bind_some]
  dsimp only
  rw [if_pos i11_5, if_pos rfl, e12, Option.bind_some]
  dsimp only
  rw [if_pos i11_9, if_pos rfl, e13, Option.bind_some]
  dsimp only
  rw [if_pos i11_0, x7, Option.bind_some, if_pos rfl, e14, Option.bind_some]
  dsimp only
  rw [if_pos i11_2, x8, Option.bind_some, if_pos rfl, e15, Option.bind_some]
  dsimp only
  rw [if_pos i11_8, if_pos rfl, f11, Option.bind_some]
  dsimp only
  rw [if_pos rfl, f16, Option.bind_some]
  dsimp only
  rw [f17, Option.bind_some]
  dsimp only
  rw [if_pos hm2]
