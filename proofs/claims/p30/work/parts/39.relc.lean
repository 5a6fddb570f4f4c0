/-! PURE: the class over its eight states, beside the model's row alone -/
def hiS (w w' : St) : Prop := (∀ r, 10 ≤ r → w'.1 r = w.1 r) ∧ ∀ a, a ≠ 0 → w'.2 a = w.2 a
theorem Sim_lo {w w' : St} {s : Nat → Int32} {B : Nat} (e : hiS w w') (h : Sim w s B) : Sim w' s B := by
  obtain ⟨rw, li, hS, hC⟩ := h
  obtain ⟨e1, e2⟩ := e
  have e10 := e1 10 (by omega)
  have e11 := e1 11 (by omega)
  have e12 := e1 12 (by omega)
  have e13 := e1 13 (by omega)
  have e14 := e1 14 (by omega)
  have e15 := e1 15 (by omega)
  have e16 := e1 16 (by omega)
  have e17 := e1 17 (by omega)
  have e18 := e1 18 (by omega)
  have e19 := e1 19 (by omega)
  have e20 := e1 20 (by omega)
  have e21 := e1 21 (by omega)
  have e22 := e1 22 (by omega)
  have e23 := e1 23 (by omega)
  have e24 := e1 24 (by omega)
  have a1 := e2 1 (by omega)
  have a2 := e2 2 (by omega)
  have a3 := e2 3 (by omega)
  have a4 := e2 4 (by omega)
  have a5 := e2 5 (by omega)
  have a6 := e2 6 (by omega)
  refine ⟨rw, li, ?_, ?_⟩
  · unfold SimB gNu gI at hS ⊢
    rw [e10, e11, e12, e13, e14, e15, e16, e17, e18, e19, e20, e21, e22, e23, e24, a1, a2, a3, a4, a5, a6]
    exact hS
  · rw [e10, e13, e15, e16, e17, e18, a1, a2, a3]
    exact hC
theorem e_isError {Wt : Type} (v : Int32) (w : Wt) : f_X6_isError v w = some (if -11 < v then 0 else 1, w) := by
  unfold f_X6_isError
  split <;> rfl
theorem fm_dec : ∀ x, x < 10 → ¬ (nI x ^^^ 5) < 0 ∧ nI x - nI x / 5 * 5 = nI (x % 5) := by decide +kernel
theorem e_fm {Wt : Type} {x : Nat} (hx : x < 10) (w : Wt) : f_J9_floorMod_7cf53 (nI x) 5 w = some (nI (x % 5), w) := by
  obtain ⟨a, b⟩ := fm_dec x hx
  unfold f_J9_floorMod_7cf53
  rw [if_pos (by decide), if_neg a, b]
theorem Sim_row {w : St} {s s' : Nat → Int32} {B : Nat} (h : Sim w s B) (e : ∀ j, j < 235 → s' j = s j) : Sim w s' B := by
  obtain ⟨rw, li, ⟨hA, hP, hF, hW, hCo, hE, hRw, hG, hLi, hO, hR, hH, hN, hI⟩, hC⟩ := h
  exact ⟨rw, li, ⟨hA, gP_s (fun j hj => e _ (by omega)) hP, gF_s (fun j f hj hf => e _ (by omega)) hF, gW_s (fun j hj => e _ (by omega)) hW, gCo_s (fun j hj => e _ (by omega)) hCo, gE_s (fun j hj => e _ (by omega)) hE, gL_s (fun j hj => e _ (by omega)) hRw, hG, gL_s (fun j hj => e _ (by omega)) hLi, hO, gR_s (fun j hj => e _ (by omega)) hR, gR_s (fun j hj => e _ (by omega)) hH, gNu_s (fun j h1 h2 => e _ (by omega)) hN, hI⟩, hC⟩
theorem mix_hi (t : TT) (i : Nat) : hiS (t.1 i) (mix t i) := ⟨fun r hr => if_neg (by omega), fun a ha => if_neg ha⟩
theorem mix_lo (t : TT) (i : Nat) : (∀ r, r < 10 → (mix t i).1 r = t.2.1.1 r) ∧ (mix t i).2 0 = t.2.1.2 0 := ⟨fun _ hr => if_pos hr, rfl⟩
theorem e_note {t : TT} {f s : Nat} (hf : f < 5) (hs : s ≤ 4) (h1 : t.2.2 1 = nI f) (h2 : t.2.2 2 = nI s) : f_X2_note t = some (0, cpT t (3 + (f + s) % 5) 0) := by
  have hm : (f + s) % 5 < 5 := Nat.mod_lt _ (by omega)
  unfold f_X2_note
  rw [h1, h2, nI_add, e_fm (by omega), Option.bind_some, if_pos ((ibN (by omega)).mpr hm), clN (by omega)]
theorem e_settle_err {v : Int32} (h : ¬ (-11 : Int32) < v) (t : TT) : f_X2_settle v t = some (v, t) := by
  unfold f_X2_settle
  rw [e_isError, if_neg h]
  rfl
theorem e_settle_ok {v : Int32} (h : (-11 : Int32) < v) {t : TT} {f s : Nat} (hf : f < 5) (hs : s ≤ 4) (h1 : t.2.2 1 = nI f) (h2 : t.2.2 2 = nI s) : f_X2_settle v t = some (v, if s = 4 then tR t 1 (nI ((f + 1) % 5)) else tR t 2 (nI (s + 1))) := by
  unfold f_X2_settle
  rw [e_isError, if_pos h]
  simp only [Option.bind_some, if_true]
  rw [h2]
  by_cases h4 : s = 4
  · subst h4
    rw [if_neg (show ¬ nI 4 < 4 by decide), if_pos rfl, h1, nI_eq_of, e_fm (by omega)]
    rfl
  · rw [if_pos (show nI s < 4 from (ltL (by omega) (by omega)).mpr (by omega)), if_neg h4, nI_eq_of]
/-- the model that keeps no past -/
def mkM (s : Nat → Int32) : St := (fun r => if r = 2 then 1 else 0, fun _ => s)
theorem chg_mk (s : Nat → Int32) : f_X7_changes (mkM s) = some (0, mkM s) := rfl
theorem mk_0 (s : Nat → Int32) : (mkM s).2 0 = s := rfl
def RelC (t : TT) (s : Nat → Int32) (B : Nat) : Prop := (∃ f z, f < 5 ∧ z ≤ 4 ∧ t.2.2 1 = nI f ∧ t.2.2 2 = nI z) ∧ t.2.1.1 0 = 0 ∧ Sim (t.1 0) s B
theorem RelC_mono {t : TT} {s : Nat → Int32} {B B' : Nat} (hB : B ≤ B') (h : RelC t s B) : RelC t s B' := ⟨h.1, h.2.1, Sim_mono hB h.2.2⟩
theorem mixS {t : TT} {s : Nat → Int32} {B : Nat} (h : RelC t s B) : Sim (mix t 0) s B := Sim_lo (mix_hi t 0) h.2.2
theorem putC {t : TT} {s : Nat → Int32} {B : Nat} (h : RelC t s B) : RelC (put t 0 (mix t 0)) s B := ⟨h.1, h.2.1, mixS h⟩
/-- a change, beside the model's -/
def Chg (s : Nat → Int32) (B : Nat) (co : Option (Int32 × TT)) (mo : Option (Int32 × St)) : Prop :=
  ∃ v t' s', co = some (v, t') ∧ ((¬ (-11 : Int32) < v ∧ mo = some (v, mkM s) ∧ s' = s) ∨ (okv v ∧ mo = some (v, sG (mkM s) 0 s'))) ∧ RelC t' s' (B + 1)
theorem chgC {t : TT} {s : Nat → Int32} {B : Nat} (h : RelC t s B) (c : St → Option (Int32 × St)) (mo : Option (Int32 × St)) (hc : ∀ w, Sim w s B → ChS w (mkM s) (mkM s) B (c w) mo) :
    Chg s B ((f_X2_note t).bind fun o1 => (c (mix o1.2 0)).bind fun o3 => (f_X2_settle o3.1 (put o1.2 0 o3.2)).bind fun o5 => some (o5.1, o5.2)) mo := by
  obtain ⟨⟨f, z, hf, hz, h1, h2⟩, h3, hS⟩ := h
  have hn := e_note hf hz h1 h2
  have c0 : (cpT t (3 + (f + z) % 5) 0).1 0 = t.1 0 := if_neg (by omega)
  have hSm : Sim (mix (cpT t (3 + (f + z) % 5) 0) 0) s B := by
    refine Sim_lo (mix_hi _ 0) ?_
    rw [c0]; exact hS
  rw [hn]
  simp only [Option.bind_some]
  rcases hc _ hSm with ⟨v, v1, v2, v3⟩ | ⟨v, w', s', v1, v2, v3, v4, v5⟩
  · refine ⟨v, put (cpT t (3 + (f + z) % 5) 0) 0 (mix (cpT t (3 + (f + z) % 5) 0) 0), s, ?_, Or.inl ⟨v1, v3, rfl⟩, ⟨f, z, hf, hz, h1, h2⟩, h3, Sim_mono (Nat.le_succ B) hSm⟩
    rw [v2]
    simp only [Option.bind_some]
    rw [e_settle_err v1]
    rfl
  · refine ⟨v, if z = 4 then tR (put (cpT t (3 + (f + z) % 5) 0) 0 w') 1 (nI ((f + 1) % 5)) else tR (put (cpT t (3 + (f + z) % 5) 0) 0 w') 2 (nI (z + 1)), s', ?_, Or.inr ⟨v1, v3⟩, ?_⟩
    · rw [v2]
      simp only [Option.bind_some]
      rw [e_settle_ok (t := put (cpT t (3 + (f + z) % 5) 0) 0 w') v1.1 hf hz h1 h2]
      rfl
    · have hl : w'.1 0 = 0 := (v5.1 0 (by omega)).trans h3
      by_cases h4 : z = 4
      · rw [if_pos h4]
        exact ⟨⟨(f + 1) % 5, z, Nat.mod_lt _ (by omega), hz, rfl, h2⟩, hl, v4⟩
      · rw [if_neg h4]
        exact ⟨⟨f, z + 1, hf, by omega, h1, rfl⟩, hl, v4⟩
def QryC (t : TT) (s : Nat → Int32) (B : Nat) (co : Option (Int32 × TT)) (mo : Option (Int32 × St)) : Prop := ∃ v t', co = some (v, t') ∧ mo = some (v, mkM s) ∧ RelC t' s B
theorem qryC {t : TT} {s : Nat → Int32} {B : Nat} (h : RelC t s B) {c mo : Option (Int32 × St)} (hq : Qry (mix t 0) (mkM s) c mo) : QryC t s B (c.bind fun o1 => some (o1.1, put t 0 o1.2)) mo := by
  obtain ⟨v, e1, e2⟩ := hq
  exact ⟨v, _, by rw [e1]; rfl, e2, putC h⟩
theorem C_make {t : TT} {s : Nat → Int32} {B : Nat} (h : RelC t s B) (x : Int32) : Chg s B (f_X6_make x t) (f_X7_make x (mkM s)) := chgC h (fun w => f_X5_create x w) _ (fun w hw => make_step (m := mkM s) (m' := mkM s) hw (chg_mk s) rfl x)
theorem C_field {t : TT} {s : Nat → Int32} {B : Nat} (h : RelC t s B) (x y z : Int32) : Chg s B (f_X6_field x y z t) (f_X7_field x y z (mkM s)) := chgC h (fun w => f_X5_writeField x y z w) _ (fun w hw => field_step (m := mkM s) (m' := mkM s) hw (chg_mk s) rfl x y z)
theorem C_root {t : TT} {s : Nat → Int32} {B : Nat} (h : RelC t s B) (x y : Int32) : Chg s B (f_X6_root x y t) (f_X7_root x y (mkM s)) := chgC h (fun w => f_X5_writeRoot x y w) _ (fun w hw => root_step (m := mkM s) (m' := mkM s) hw (chg_mk s) rfl x y)
theorem C_weak {t : TT} {s : Nat → Int32} {B : Nat} (h : RelC t s B) (x y : Int32) : Chg s B (f_X6_weak x y t) (f_X7_weak x y (mkM s)) := chgC h (fun w => f_X5_writeHolder x y w) _ (fun w hw => weak_step (m := mkM s) (m' := mkM s) hw (chg_mk s) rfl x y)
theorem C_ask {t : TT} {s : Nat → Int32} {B : Nat} (h : RelC t s B) (x y : Int32) : Chg s B (f_X6_ask x y t) (f_X7_ask x y (mkM s)) := chgC h (fun w => f_X5_askHolder x y w) _ (fun w hw => ask_step (m := mkM s) (m' := mkM s) hw (chg_mk s) rfl x y)
theorem C_want {t : TT} {s : Nat → Int32} {B : Nat} (h : RelC t s B) (x : Int32) : Chg s B (f_X6_want x t) (f_X7_want x (mkM s)) := chgC h (fun w => f_X5_wishFinish x w) _ (fun w hw => want_step (m := mkM s) (m' := mkM s) hw (chg_mk s) rfl x)
theorem C_finish {t : TT} {s : Nat → Int32} {B : Nat} (h : RelC t s B) (x : Int32) : Chg s B (f_X6_finish x t) (f_X7_finish x (mkM s)) := chgC h (fun w => f_X5_finishFirst x w) _ (fun w hw => finish_step (m := mkM s) (m' := mkM s) hw (chg_mk s) rfl x)
theorem C_begin {t : TT} {s : Nat → Int32} {B : Nat} (h : RelC t s B) : Chg s B (f_X6_begin  t) (f_X7_begin  (mkM s)) := chgC h (fun w => f_X5_beginSearch  w) _ (fun w hw => begin_step (m := mkM s) (m' := mkM s) hw (chg_mk s) rfl )
theorem C_step {t : TT} {s : Nat → Int32} {B : Nat} (h : RelC t s B) (x : Int32) : Chg s B (f_X6_step x t) (f_X7_step x (mkM s)) := chgC h (fun w => f_X5_doSteps x w) _ (fun w hw => step_step (m := mkM s) (m' := mkM s) hw (chg_mk s) rfl x)
theorem C_all {t : TT} {s : Nat → Int32} {B : Nat} (h : RelC t s B) : Chg s B (f_X6_all  t) (f_X7_all  (mkM s)) := chgC h (fun w => f_X5_doAllSteps  w) _ (fun w hw => all_step (m := mkM s) (m' := mkM s) hw (chg_mk s) rfl )
theorem C_set {t : TT} {s : Nat → Int32} {B : Nat} (h : RelC t s B) (x : Int32) : Chg s B (f_X6_set x t) (f_X7_set x (mkM s)) := chgC h (fun w => f_X5_setCare x w) _ (fun w hw => set_step (m := mkM s) (m' := mkM s) hw (chg_mk s) rfl x)
theorem C_objectOf {t : TT} {s : Nat → Int32} {B : Nat} (h : RelC t s B) (x y : Int32) : QryC t s B (f_X6_objectOf x y t) (f_X7_objectOf x y (mkM s)) := by
  obtain ⟨rw, li, hS⟩ := mixS h
  exact qryC h (tellObject_sim (m := mkM s) hS.1 x y)
theorem C_refers {t : TT} {s : Nat → Int32} {B : Nat} (h : RelC t s B) (x y : Int32) : QryC t s B (f_X6_refers x y t) (f_X7_refers x y (mkM s)) := by
  obtain ⟨rw, li, hS⟩ := mixS h
  exact qryC h (refers_sim (m := mkM s) hS.1 x y)
theorem C_objects {t : TT} {s : Nat → Int32} {B : Nat} (h : RelC t s B) (x : Int32) : QryC t s B (f_X6_objects x t) (f_X7_objects x (mkM s)) := by
  obtain ⟨rw, li, hS⟩ := mixS h
  exact qryC h (tellSet_sim (m := mkM s) hS.1 x)
theorem C_grey {t : TT} {s : Nat → Int32} {B : Nat} (h : RelC t s B) (x : Int32) : QryC t s B (f_X6_grey x t) (f_X7_grey x (mkM s)) := by
  by_cases hx : x < 0
  · refine ⟨-11, t, ?_, ?_, h⟩
    · unfold f_X6_grey; rw [if_pos hx]
    · unfold f_X7_grey; rw [if_pos hx]
  · obtain ⟨rw, li, hS⟩ := mixS h
    obtain ⟨v, e1, e2⟩ := grey_sim (m := mkM s) hS.1 x hx
    refine ⟨v, put t 0 (mix t 0), ?_, e2, putC h⟩
    unfold f_X6_grey
    rw [if_neg hx]
    revert e1
    generalize f_X3_at_6 x (mix t 0) = o
    intro e1
    cases o with
    | none => cases e1
    | some q =>
      simp only [Option.bind_some] at e1 ⊢
      by_cases z : q.1 = -1
      · rw [if_pos z] at e1 ⊢
        injection e1 with e1; injection e1 with a b
        rw [a, b]
      · rw [if_neg z] at e1 ⊢
        injection e1 with e1; injection e1 with a b
        rw [a, b]
theorem C_count {t : TT} {s : Nat → Int32} {B : Nat} (hB : B < 2147483648) (h : RelC t s B) (x : Int32) (h10 : ¬ x = 10) (h11 : ¬ x = 11) (h12 : ¬ x = 12) : QryC t s B (f_X6_count x t) (f_X7_count x (mkM s)) := by
  obtain ⟨rw, li, hS⟩ := mixS h
  have := qryC h (count_sim (m := mkM s) hB hS.1 x h10 h11 h12)
  unfold f_X6_count
  rw [if_neg h10, if_neg h11, if_neg h12]
  exact this
theorem C_count11 {t : TT} {s : Nat → Int32} {B : Nat} (h : RelC t s B) : f_X6_count 11 t = some (0, t) := by
  unfold f_X6_count
  rw [if_neg (by decide), if_pos rfl, h.2.1]
