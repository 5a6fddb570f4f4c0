/-! PURE: make, and what the law does in a turn -/
theorem l30 (x : Int32) (T : TT) : ∀ (n j : Nat) (m : St), j ≤ 24 → 24 - j < n → ∃ k, j ≤ k ∧ k ≤ 24 ∧ f_L_acts_L30 n x (nI j) (T, m) = some (nI k, (T, m)) ∧ (k < 24 → m.2 2 k < 0) ∧ ∀ i, j ≤ i → i < k → ¬ m.2 2 i < 0 := by
  intro n
  induction n with
  | zero => intro j m _ h; omega
  | succ n ih =>
    intro j m hj hn
    by_cases h : j < 24
    · have cj : (nI j).toNatClampNeg = j := clN (by omega)
      by_cases hc : m.2 2 j < 0
      · refine ⟨j, Nat.le_refl _, hj, ?_, fun _ => hc, fun i a b => by omega⟩
        rw [f_L_acts_L30]
        simp only [cj]
        rw [if_pos ((ltL (by omega) (by omega)).mpr h), if_pos (ib24 h), if_pos hc]
      · obtain ⟨k, k1, k2, e, k3, k4⟩ := ih (j + 1) m (by omega) (by omega)
        refine ⟨k, by omega, k2, ?_, k3, fun i a b => ?_⟩
        · rw [f_L_acts_L30]
          simp only [cj, addR]
          rw [if_pos ((ltL (by omega) (by omega)).mpr h), if_pos (ib24 h), if_neg hc]
          exact e
        · by_cases ei : i = j
          · subst ei; exact hc
          · exact k4 i (by omega) b
    · have h4 : j = 24 := by omega
      subst h4
      refine ⟨24, Nat.le_refl _, Nat.le_refl _, ?_, fun q => by omega, fun i a b => by omega⟩
      rw [f_L_acts_L30, if_neg (by decide)]
theorem En_new {m : St} {s s1 : Nat → Int32} {k : Nat} {c : Int32} (hE : En m s) (hk : k < 24) (hc : ¬ c < 0) (hs : nwS s k c s1) : EnR (upd (m.2 0) 3 (m.2 0 3 + 1)) (upd (m.2 1) k 0) (upd (m.2 2) k c) (upd (m.2 3) k 0) (upd (m.2 4) k 0) (m.2 5) (m.2 6) (m.2 7) s1 := by
  obtain ⟨h1, h2, h3, h4, h5⟩ := hE
  obtain ⟨n1, n2, n3, n4, n5, n6, n7⟩ := hs
  refine ⟨fun y hy => ?_, fun y hy => ?_, eR_s (fun j hj => ⟨n7 _ (by omega) (by omega), n7 _ (by omega) (by omega)⟩) h3, eT_s (fun j hj => n7 _ (by omega) (by omega)) h4, ?_⟩
  · by_cases e : y = k
    · subst e
      rw [upd_eq, upd_eq, upd_eq]
      exact ⟨by rw [n1, if_neg hc], fun _ => ⟨n3, n4, n5⟩⟩
    · rw [upd_ne e, upd_ne e, upd_ne e, n7 (7 * y) (by omega) (by omega), n7 (7 * y + 4) (by omega) (by omega), n7 (7 * y + 5) (by omega) (by omega), n7 (7 * y + 6) (by omega) (by omega)]
      exact h1 y hy
  · by_cases e : y = k
    · subst e
      refine ⟨fun _ => 0, fun i hi => Nat.zero_le _, by rw [upd_eq]; rfl, fun _ i hi => by
        rw [n2 i hi]
        show (-1 : Int32) = nI 0 - 1
        decide⟩
    · obtain ⟨a, b1, b2, b3⟩ := h2 y hy
      rw [upd_ne e, upd_ne e]
      exact ⟨a, b1, b2, fun q i hi => by rw [n7 _ (by omega) (by omega)]; exact b3 q i hi⟩
  · obtain ⟨a, b, c1, d, e, f1, i, j, k1, l, m1⟩ := h5
    have q : ∀ x, 168 ≤ x → x ≠ 229 → s1 x = s x := fun x x1 x2 => n7 x (by omega) x2
    refine ⟨?_, fun z => ?_, ?_, ?_, ?_, ?_, ?_, ?_, ?_, ?_, ?_⟩
    · rw [q _ (by omega) (by omega), upd_ne (by omega)]; exact a
    · rw [upd_ne (by omega)] at z; rw [q _ (by omega) (by omega), upd_ne (by omega)]; exact b z
    · rw [q _ (by omega) (by omega), upd_ne (by omega)]; exact c1
    · rw [n6, upd_eq, d]
    · rw [q _ (by omega) (by omega), upd_ne (by omega)]; exact e
    · rw [q _ (by omega) (by omega), upd_ne (by omega)]; exact f1
    · rw [q _ (by omega) (by omega), upd_ne (by omega)]; exact i
    · rw [q _ (by omega) (by omega), upd_ne (by omega)]; exact j
    · rw [q _ (by omega) (by omega), upd_ne (by omega)]; exact k1
    · rw [q _ (by omega) (by omega), upd_ne (by omega)]; exact l
    · rw [q _ (by omega) (by omega), upd_ne (by omega)]; exact m1
theorem bal_new {s s1 : Nat → Int32} {k : Nat} {c : Int32} (hk : k < 24) (hp : ¬ s (7 * k) = 1) (hs : nwS s k c s1) (b : Bal s) : Bal s1 := by
  obtain ⟨n1, n2, n3, n4, n5, n6, n7⟩ := hs
  unfold Bal at *
  have e : cntP s1 = cntP s + 1 := by
    unfold cntP
    refine cnt_one (k := k) (fun j hj q => ?_) hk (decide_eq_true n1) (decide_eq_false hp)
    rw [n7 _ (by omega) (by omega)]
  rw [e, n6, n7 230 (by omega) (by omega), ← sub_add1, b, addR]
theorem W_make {t : TT} {m : St} {s : Nat → Int32} {B Y : Nat} (h : RelC t s B) (hE : En m s) (hbal : Bal s) (hY : Y < 10000000) : ∃ p', ((f_L_acts_L30 BIG (nI Y) 0 (t, m)).bind fun o9 => (if o9.1 = 24 then (f_X6_make (nI Y - nI Y / 4 * 4) o9.2.1).bind fun o12 => (if o12.1 = (-13) then some ((1 : Int32), (o12.2, o9.2.2)) else some ((0 : Int32), (o12.2, o9.2.2))) else if ib 0 11 then (if (o9.2.2.2 0 (0 : Int32).toNatClampNeg) = 1 then some ((2 : Int32)) else if ib 0 11 then (if (o9.2.2.2 0 (0 : Int32).toNatClampNeg) = 2 then some ((2 : Int32)) else if ib 0 11 then (if (o9.2.2.2 0 (0 : Int32).toNatClampNeg) = 3 then if ib 1 11 then (if o9.1 < (o9.2.2.2 0 (1 : Int32).toNatClampNeg) then some ((0 : Int32)) else some ((2 : Int32))) else none else some ((0 : Int32))) else none) else none).bind fun o17 => if ib o9.1 24 then if ib o9.1 24 then if ib o9.1 24 then if ib o9.1 24 then if ib 3 11 then if ib 3 11 then (f_L_writeRoot (nI Y - nI Y / 4 * 4) o9.1 (sA (sA (sA (sA (sA o9.2.2 2 o9.1 o17) 3 o9.1 0) 4 o9.1 0) 1 o9.1 0) 0 3 ((o9.2.2.2 0 (3 : Int32).toNatClampNeg) + 1))).bind fun o32 => (f_X6_make (nI Y - nI Y / 4 * 4) o9.2.1).bind fun o34 => (if o34.1 = o9.1 then some ((1 : Int32), (o34.2, o32.2)) else some ((0 : Int32), (o34.2, o32.2))) else none else none else none else none else none else none else none)) = some (1, p') ∧ InvJ p' (B + 1) := by
  obtain ⟨rw, li, hS⟩ := h.2.2
  have hP := hS.1.2.1
  have hφ : nI Y - nI Y / 4 * 4 = nI (Y % 4) := remL (by omega) (by omega) (by omega)
  have hi : Y % 4 < 4 := Nat.mod_lt _ (by omega)
  generalize Y % 4 = i at hφ hi
  have hc := C_make h (nI i)
  have hin' : isI (nI i) 4 = 1 := isI_in (by omega) hi
  obtain ⟨fr, hfr, h18⟩ := hS.1.2.2.2.2.2.2.2.2.2.2.2.2.2.2.2.1
  obtain ⟨k, _, k2, ek, k3, k4⟩ := l30 (nI Y) t BIG 0 m (by omega) (by unfold BIG; omega)
  obtain ⟨r2, e2, hL2⟩ := free_loop (m := mkM s) hP BIG 0 (by omega) (by unfold BIG; omega)
  have e2' : f_X7_lowestFree (mkM s) = some (r2, mkM s) := e2
  have hneg : ∀ y, y < 24 → (m.2 2 y < 0 ↔ tb ((t.1 0).1 13) y = false) := fun y hy => En_neg hE hP hy
  obtain ⟨g0, s226⟩ := part_E hS.1 hE
  rw [hφ, show f_L_acts_L30 BIG (nI Y) 0 (t, m) = _ from ek, Option.bind_some]
  dsimp only
  rcases Nat.lt_or_ge k 24 with hk | hk
  · have hn : tb ((t.1 0).1 13) k = false := (hneg k hk).mp (k3 hk)
    have hr2 : r2 = nI k := by
      rcases hL2 with ⟨k', z1, z2, z3, z4, rfl⟩ | ⟨_, z⟩
      · rcases Nat.lt_trichotomy k' k with q | q | q
        · exact absurd ((hneg k' z2).mpr z3) (k4 k' z1 q)
        · rw [q]
        · have := z4 k (Nat.zero_le k) q
          rw [hn] at this
          cases this
      · have := z k (Nat.zero_le k) hk
        rw [hn] at this
        cases this
    subst hr2
    have hn0 : ¬ nI k < 0 := nI_pos (by omega)
    have hn24 : ¬ nI k = 24 := fun q => by have := (nI_eq (a := k) (b := 24) (by omega) (by omega)).mp q; omega
    obtain ⟨b', c, ec, hb, hm, h3, h00⟩ := e_colourNew hk (sG (sR (sR (t.1 0) 13 ((t.1 0).1 13 ||| bI (nI k))) 11 ((t.1 0).1 11 + 1)) 6 (upd ((t.1 0).2 6) k ((t.1 0).1 19))) hfr h18
    have hb : (b' = (t.1 0).1 17 ∧ c = 0) ∨ (b' = (t.1 0).1 17 ||| bI (nI k) ∧ c = 2) := hb
    have hc0 : ¬ c < 0 := by
      rcases hb with ⟨_, q⟩ | ⟨_, q⟩ <;> rw [q] <;> decide
    obtain ⟨sb, eb, b1, b2⟩ := mk35 hk (nI i) BIG 0 (sG (mkM s) 0 (upd s (7 * k) 1)) (by omega) (by unfold BIG; omega)
    rw [sG_sG] at eb
    rw [sG_2] at b2
    have hsd : nwS s k c (upd (upd (upd (upd sb (7 * k + 4) 0) (7 * k + 5) c) (7 * k + 6) 0) 229 (sb 229 + 1)) := by
      refine ⟨?_, fun f hf => ?_, ?_, ?_, ?_, ?_, fun j hj hj2 => ?_⟩
      · rw [upd_ne (by omega), upd_ne (by omega), upd_ne (by omega), upd_ne (by omega), b2 _ (fun g _ _ => by omega), upd_eq]
      · rw [upd_ne (by omega), upd_ne (by omega), upd_ne (by omega), upd_ne (by omega), b1 f (Nat.zero_le f) hf]
      · rw [upd_ne (by omega), upd_ne (by omega), upd_ne (by omega), upd_eq]
      · rw [upd_ne (by omega), upd_ne (by omega), upd_eq]
      · rw [upd_ne (by omega), upd_eq]
      · rw [upd_eq, b2 229 (fun g _ _ => by omega), upd_ne (by omega)]
      · rw [upd_ne hj2, upd_ne (by omega), upd_ne (by omega), upd_ne (by omega), b2 _ (fun g _ _ => by omega), upd_ne (by omega)]
    have hS1 := new_sim hS.1 hk hn hsd hb
    have hE1 : En (sG (sG (sG (sG (sG m 2 (upd (m.2 2) k c)) 3 (upd (m.2 3) k 0)) 4 (upd (m.2 4) k 0)) 1 (upd (m.2 1) k 0)) 0 (upd (m.2 0) 3 (m.2 0 3 + 1))) (upd (upd (upd (upd sb (7 * k + 4) 0) (7 * k + 5) c) (7 * k + 6) 0) 229 (sb 229 + 1)) := En_new hE hk hc0 hsd
    have hbal1 : Bal (upd (upd (upd (upd sb (7 * k + 4) 0) (7 * k + 5) c) (7 * k + 6) 0) 229 (sb 229 + 1)) := bal_new hk (fun q => by rw [hP k hk, hn] at q; exact absurd q (by decide)) hsd hbal
    have hpk : tb ((t.1 0).1 13 ||| bI (nI k)) k = true := (tb_add hk k).mpr (Or.inr rfl)
    have hm2 : (sG (mkM s) 0 (upd (upd (upd (upd sb (7 * k + 4) 0) (7 * k + 5) c) (7 * k + 6) 0) 229 (sb 229 + 1))).2 0 = upd (upd (upd (upd sb (7 * k + 4) 0) (7 * k + 5) c) (7 * k + 6) 0) 229 (sb 229 + 1) := sG_2 _ _ _
    rw [← hm2] at hS1 hE1
    obtain ⟨w', s', rw', m', _, a2, a3, a4, a5, a6, a7, _, a9⟩ := T_root hS1 hE1 hi (to := nI k) (Or.inr ⟨k, hk, rfl, hpk⟩)
    rw [sG_sG] at a2
    rw [hm2] at a9
    have hb24 : (t.1 0).2 2 i < 24 := lt24_okr (hS.1.2.2.2.2.2.2.2.2.2.2.1 i hi).1
    have hX : f_X7_make (nI i) (mkM s) = some (nI k, sG (mkM s) 0 s') := by
      unfold f_X7_make
      simp only [e_isRoot, hin', Option.bind_some, oz, if_false, e2', hn0, chg_mk]
      rw [show f_X7_sets (nI k) 0 1 (mkM s) = some (0, sG (mkM s) 0 (upd s (7 * k) 1)) from e_sets (j := 0) (by omega) 1]
      simp only [Option.bind_some]
      rw [show f_X7_make_L35 BIG (nI i) (nI k) 0 (sG (mkM s) 0 (upd s (7 * k) 1)) = some (sG (mkM s) 0 sb) from eb]
      simp only [Option.bind_some]
      rw [show f_X7_sets (nI k) 4 0 (sG (mkM s) 0 sb) = some (0, sG (sG (mkM s) 0 sb) 0 (upd ((sG (mkM s) 0 sb).2 0) (7 * k + 4) 0)) from e_sets (j := 4) (by omega) 0, sG_2, sG_sG]
      simp only [Option.bind_some]
      have g226 : (sG (mkM s) 0 (upd sb (7 * k + 4) 0)).2 0 226 = (t.1 0).1 15 := by
        rw [sG_2, upd_ne (by omega), b2 _ (fun g _ _ => by omega), upd_ne (by omega)]
        exact s226
      have g226' : (sG (mkM s) 0 (upd sb (7 * k + 4) 0)).2 0 (226 : Int32).toNatClampNeg = (t.1 0).1 15 := g226
      have g227 : (sG (mkM s) 0 (upd sb (7 * k + 4) 0)).2 0 (227 : Int32).toNatClampNeg = nI fr := by
        show (sG (mkM s) 0 (upd sb (7 * k + 4) 0)).2 0 227 = nI fr
        rw [sG_2, upd_ne (by omega), b2 _ (fun g _ _ => by omega), upd_ne (by omega), ← h18]
        exact hS.1.2.2.2.2.2.2.2.2.2.2.2.2.1.2.1
      have g229 : (sG (mkM s) 0 (upd sb (7 * k + 4) 0)).2 0 229 = sb 229 := by
        rw [sG_2, upd_ne (by omega)]
      have tail : ((f_X7_writesRoot (nI i) (nI k) (sG (sG (mkM s) 0 (upd sb (7 * k + 4) 0)) 0 (upd (upd (upd ((sG (mkM s) 0 (upd sb (7 * k + 4) 0)).2 0) (7 * k + 5) c) (7 * k + 6) 0) 229 ((sG (mkM s) 0 (upd sb (7 * k + 4) 0)).2 0 229 + 1)))).bind fun o31 => (if o31.1 < 24 then some (nI k, o31.2) else some (o31.1, o31.2))) = some (nI k, sG (mkM s) 0 s') := by
        rw [g229, sG_2, sG_sG, a2]
        simp only [Option.bind_some]
        rw [if_pos (show (sR (sG (sR (sR (t.1 0) 13 ((t.1 0).1 13 ||| bI (nI k))) 11 ((t.1 0).1 11 + 1)) 6 (upd ((t.1 0).2 6) k ((t.1 0).1 19))) 17 b').2 2 i < 24 from hb24)]
      rw [e_isMarking, g226]
      simp only [Option.bind_some]
      by_cases hz : ndI ((t.1 0).1 15) = 0
      · have hnp := ndI_0.mp hz
        rw [if_pos hz, if_pos ib226, g226']
        by_cases hp3 : (t.1 0).1 15 = 3
        · rw [if_pos hp3, if_pos ib227, g227]
          rcases h3 hp3 with ⟨z1, _, z3⟩ | ⟨z1, _, z3⟩
          · subst z3
            rw [if_pos ((nI_ltI (by omega) (by omega)).mpr z1), mk_tail hk]
            exact tail
          · subst z3
            rw [if_neg (fun q => by have := (nI_ltI (by omega) (by omega)).mp q; omega), mk_tail hk]
            exact tail
        · rw [if_neg hp3]
          have hp0 : (t.1 0).1 15 = 0 := by
            rcases hS.1.2.2.2.2.2.2.2.2.2.2.2.2.2.1 with q | q | q | q
            · exact q
            · exact absurd (Or.inl q) hnp
            · exact absurd (Or.inr q) hnp
            · exact absurd q hp3
          have z3 := (h00 hp0).2
          subst z3
          rw [mk_tail hk]
          exact tail
      · rw [if_neg hz]
        have hp : (t.1 0).1 15 = 1 ∨ (t.1 0).1 15 = 2 := by
          by_cases q : (t.1 0).1 15 = 1 ∨ (t.1 0).1 15 = 2
          · exact q
          · exact absurd (ndI_0.mpr q) hz
        have z3 := (hm hp).2
        subst z3
        rw [mk_tail hk]
        exact tail
    obtain ⟨t', y1, y2⟩ := Chg_is hc hX
    have hcol : (if m.2 0 0 = 1 then some ((2 : Int32)) else if ib 0 11 then (if m.2 0 0 = 2 then some ((2 : Int32)) else if ib 0 11 then (if m.2 0 0 = 3 then if ib 1 11 then (if nI k < m.2 0 1 then some ((0 : Int32)) else some ((2 : Int32))) else none else some ((0 : Int32))) else none) else none) = some c := by
      rw [g0]
      rcases hS.1.2.2.2.2.2.2.2.2.2.2.2.2.2.1 with q | q | q | q
      · rw [if_neg (by rw [q]; decide), if_pos i11_0, if_neg (by rw [q]; decide), if_pos i11_0, if_neg (by rw [q]; decide), (h00 q).2]
      · rw [if_pos q, (hm (Or.inl q)).2]
      · rw [if_neg (by rw [q]; decide), if_pos i11_0, if_pos q, (hm (Or.inr q)).2]
      · have g1 : m.2 0 1 = nI fr := ((En_g hE).2.1 (g0.trans q)).symm.trans (hS.1.2.2.2.2.2.2.2.2.2.2.2.2.1.2.1.trans h18)
        rw [if_neg (by rw [q]; decide), if_pos i11_0, if_neg (by rw [q]; decide), if_pos i11_0, if_pos q, if_pos i11_1, g1]
        rcases h3 q with ⟨z1, _, z3⟩ | ⟨z1, _, z3⟩
        · rw [if_pos ((nI_ltI (by omega) (by omega)).mpr z1), z3]
        · rw [if_neg (fun q => by have := (nI_ltI (by omega) (by omega)).mp q; omega), z3]
    refine ⟨(t', m'), ?_, s', y2, a5, a9.bal hbal1⟩
    rw [if_neg hn24, if_pos i11_0]
    simp only [cl_0, cl_1]
    rw [hcol, Option.bind_some, if_pos (ib24 hk), if_pos (ib24 hk), if_pos (ib24 hk), if_pos (ib24 hk), if_pos i11_3, if_pos i11_3, sA_nI _ _ _ (by omega), sA_nI _ _ _ (by omega), sA_nI _ _ _ (by omega), sA_nI _ _ _ (by omega)]
    have hst : sA (sG (sG (sG (sG m 2 (upd (m.2 2) k c)) 3 (upd ((sG m 2 (upd (m.2 2) k c)).2 3) k 0)) 4 (upd ((sG (sG m 2 (upd (m.2 2) k c)) 3 (upd ((sG m 2 (upd (m.2 2) k c)).2 3) k 0)).2 4) k 0)) 1 (upd ((sG (sG (sG m 2 (upd (m.2 2) k c)) 3 (upd ((sG m 2 (upd (m.2 2) k c)).2 3) k 0)) 4 (upd ((sG (sG m 2 (upd (m.2 2) k c)) 3 (upd ((sG m 2 (upd (m.2 2) k c)).2 3) k 0)).2 4) k 0)).2 1) k 0)) 0 3 ((m.2 0 (3 : Int32).toNatClampNeg) + 1) = sG (sG (sG (sG (sG m 2 (upd (m.2 2) k c)) 3 (upd (m.2 3) k 0)) 4 (upd (m.2 4) k 0)) 1 (upd (m.2 1) k 0)) 0 (upd (m.2 0) 3 (m.2 0 3 + 1)) := by
      unfold sA
      rw [cl_3]
      rfl
    rw [hst, a3, Option.bind_some, y1, Option.bind_some]
    dsimp only
    rw [if_pos rfl]
  · have h4 : k = 24 := by omega
    subst h4
    have hr2 : r2 = -14 := by
      rcases hL2 with ⟨k', z1, z2, z3, z4, rfl⟩ | ⟨a, _⟩
      · exact absurd ((hneg k' z2).mpr z3) (k4 k' z1 z2)
      · exact a
    subst hr2
    have hX : f_X7_make (nI i) (mkM s) = some (-13, mkM s) := by
      unfold f_X7_make
      simp only [e_isRoot, hin', Option.bind_some, oz, if_false, e2']
      rw [if_pos (by decide)]
    obtain ⟨t', y1, y2⟩ := Chg_no hc hX
    refine ⟨(t', m), ?_, s, y2, hE, hbal⟩
    rw [if_pos (show nI 24 = 24 from rfl), y1, Option.bind_some]
    dsimp only
    rw [if_pos rfl]
theorem and_nn (x : Int32) : ¬ (x &&& 2147483647) < 0 := by
  have hb : tb (x &&& 2147483647) 31 = false := by
    rw [tb_and, show tb 2147483647 31 = false from by decide, Bool.and_false]
  intro q
  have h1 : (x &&& 2147483647).toBitVec.msb = false := by
    rw [BitVec.msb_eq_getLsbD_last]
    exact hb
  rw [Int32.lt_iff_toInt_lt] at q
  have h2 : (x &&& 2147483647).toInt = ((x &&& 2147483647).toBitVec.toNat : Int) := BitVec.toInt_eq_toNat_of_msb h1
  have h3 : (0 : Int32).toInt = 0 := by decide
  omega
theorem e_Llow {Wt : Type} (x : Int32) {n : Nat} (h0 : 0 < n) (hn : n < 2 ^ 31) (w : Wt) : ∃ Y, Y < n ∧ f_L_low x (nI n) w = some (nI Y, w) := by
  obtain ⟨X, hX, e⟩ := nI_of (and_nn x)
  refine ⟨X % n, Nat.mod_lt _ h0, ?_⟩
  unfold f_L_low
  rw [if_pos (nI_ne0 h0 hn), e, pk_rem hX h0 hn]
theorem T_acts {t : TT} {m : St} {s : Nat → Int32} {B : Nat} (h : RelC t s B) (hE : En m s) (hbal : Bal s) (z : Int32) : ∃ p', f_L_acts z (t, m) = some (1, p') ∧ InvJ p' (B + 1) := by
  obtain ⟨Y, hY, e1⟩ := e_Llow (z >>> (5 &&& 31)) (n := 10000000) (by omega) (by omega) ((t, m) : JT)
  obtain ⟨v, hv, e2⟩ := e_Llow z (n := 32) (by omega) (by omega) ((t, m) : JT)
  unfold f_L_acts
  rw [show f_L_low (z >>> (5 &&& 31)) 10000000 ((t, m) : JT) = some (nI Y, (t, m)) from e1, Option.bind_some]
  dsimp only
  rw [show f_L_low z 32 ((t, m) : JT) = some (nI v, (t, m)) from e2, Option.bind_some]
  dsimp only
  by_cases h8 : v < 8
  · rw [if_pos ((show nI v < 8 ↔ v < 8 from ltL (by omega) (by omega)).mpr h8)]
    exact W_make h hE hbal hY
  · rw [if_neg (fun q => h8 ((show nI v < 8 ↔ v < 8 from ltL (by omega) (by omega)).mp q))]
    by_cases h25 : v < 25
    · rw [if_pos ((show nI v < 25 ↔ v < 25 from ltL (by omega) (by omega)).mpr h25)]
      have fin : ∀ w : Int32, (∃ p', f_L_writes w (nI Y) (t, m) = some (1, p') ∧ InvJ p' (B + 1)) → ∃ p', ((f_L_writes w (nI Y) (t, m)).bind fun o46 => if o46.1 = 0 ∨ o46.1 = 1 then some (o46.1, o46.2) else none) = some (1, p') ∧ InvJ p' (B + 1) := by
        rintro w ⟨p', a, b⟩
        exact ⟨p', by rw [a, Option.bind_some]; dsimp only; rw [if_pos (Or.inr rfl)], b⟩
      by_cases h15 : v < 15
      · rw [if_pos ((show nI v < 15 ↔ v < 15 from ltL (by omega) (by omega)).mpr h15), Option.bind_some]
        exact fin 0 (T_writes hY h hE (fun a b Q ha hb e1 e2 e3 => W_field hY h hE hbal ha hb e2 e3))
      · rw [if_neg (fun q => h15 ((show nI v < 15 ↔ v < 15 from ltL (by omega) (by omega)).mp q))]
        by_cases h18 : v < 18
        · rw [if_pos ((show nI v < 18 ↔ v < 18 from ltL (by omega) (by omega)).mpr h18), Option.bind_some]
          exact fin 1 (T_writes hY h hE (fun a b Q ha hb e1 e2 e3 => W_root (A := nI a) hY h hE hbal hb e2 e3))
        · rw [if_neg (fun q => h18 ((show nI v < 18 ↔ v < 18 from ltL (by omega) (by omega)).mp q))]
          by_cases h20 : v < 20
          · rw [if_pos ((show nI v < 20 ↔ v < 20 from ltL (by omega) (by omega)).mpr h20), Option.bind_some]
            exact fin 2 (T_writes hY h hE (fun a b Q ha hb e1 e2 e3 => W_weak (A := nI a) hY h hE hbal hb e2 e3))
          · rw [if_neg (fun q => h20 ((show nI v < 20 ↔ v < 20 from ltL (by omega) (by omega)).mp q))]
            by_cases he : v = 20
            · subst he
              rw [if_pos (show nI 20 = 20 from rfl), Option.bind_some]
              exact fin 3 (T_writes hY h hE (fun a b Q ha hb e1 e2 e3 => W_ask (A := nI a) (b := b) (cn := canV Q b) (bd := badV m b) (Q := Q) hY h hE hbal))
            · rw [if_neg (fun q => he ((show nI v = 20 ↔ v = 20 from eqL (by omega) (by omega)).mp q))]
              by_cases h23 : v < 23
              · rw [if_pos ((show nI v < 23 ↔ v < 23 from ltL (by omega) (by omega)).mpr h23), Option.bind_some]
                exact fin 4 (T_writes hY h hE (fun a b Q ha hb e1 e2 e3 => W_want (Y := Y) (b := b) (cn := canV Q b) (bd := badV m b) h hE hbal ha e2))
              · rw [if_neg (fun q => h23 ((show nI v < 23 ↔ v < 23 from ltL (by omega) (by omega)).mp q)), Option.bind_some]
                exact fin 5 (T_writes hY h hE (fun a b Q ha hb e1 e2 e3 => W_finish (A := nI a) (b := b) (cn := canV Q b) (bd := badV m b) (Q := Q) hY h hE hbal))
    · rw [if_neg (fun q => h25 ((show nI v < 25 ↔ v < 25 from ltL (by omega) (by omega)).mp q))]
      have fin : ∀ w : Int32, (∃ p', f_L_searches w (nI Y) (t, m) = some (1, p') ∧ InvJ p' (B + 1)) → ∃ p', ((f_L_searches w (nI Y) (t, m)).bind fun o46 => if o46.1 = 0 ∨ o46.1 = 1 then some (o46.1, o46.2) else none) = some (1, p') ∧ InvJ p' (B + 1) := by
        rintro w ⟨p', a, b⟩
        exact ⟨p', by rw [a, Option.bind_some]; dsimp only; rw [if_pos (Or.inr rfl)], b⟩
      by_cases h27 : v < 27
      · rw [if_pos ((show nI v < 27 ↔ v < 27 from ltL (by omega) (by omega)).mpr h27), Option.bind_some]
        exact fin 0 (T_begin h hE hbal)
      · rw [if_neg (fun q => h27 ((show nI v < 27 ↔ v < 27 from ltL (by omega) (by omega)).mp q))]
        by_cases h30 : v < 30
        · rw [if_pos ((show nI v < 30 ↔ v < 30 from ltL (by omega) (by omega)).mpr h30), Option.bind_some]
          exact fin 1 (T_step hY h hE hbal)
        · rw [if_neg (fun q => h30 ((show nI v < 30 ↔ v < 30 from ltL (by omega) (by omega)).mp q))]
          by_cases he : v = 30
          · subst he
            rw [if_pos (show nI 30 = 30 from rfl), Option.bind_some]
            exact fin 2 (T_all h hE hbal)
          · rw [if_neg (fun q => he ((show nI v = 30 ↔ v = 30 from eqL (by omega) (by omega)).mp q)), Option.bind_some]
            exact fin 3 (T_set hY h hE hbal)
