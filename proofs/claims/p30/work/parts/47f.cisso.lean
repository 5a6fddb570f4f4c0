/-! PURE: what the law checks between the turns -/
theorem i7_0 : ib 0 7 := by decide
theorem i7_1 : ib 1 7 := by decide
theorem i7_2 : ib 2 7 := by decide
theorem i7_3 : ib 3 7 := by decide
theorem i7_4 : ib 4 7 := by decide
theorem i7_5 : ib 5 7 := by decide
theorem i7_6 : ib 6 7 := by decide
def Pb (k : Nat) (x : Int32) (S : Nat → Bool) : Prop := ∀ i, tb x i = (decide (i < k) && S i)
theorem Pb_0 (S : Nat → Bool) : Pb 0 0 S := fun i => by rw [tb_0, decide_eq_false (by omega), Bool.false_and]
theorem Pb_step {k : Nat} {x : Int32} {S : Nat → Bool} (h : Pb k x S) (hk : k < 24) : Pb (k + 1) (x ||| (if S k then bI (nI k) else 0)) S := fun i => by
  rw [tb_or, h i]
  by_cases e : i = k
  · subst e
    rw [decide_eq_false (by omega), Bool.false_and, Bool.false_or, decide_eq_true (by omega), Bool.true_and]
    cases z : S i
    · exact tb_0 i
    · exact (tb_bI hk i).trans (decide_eq_true rfl)
  · have h2 : tb (if S k then bI (nI k) else 0) i = false := by
      cases z : S k
      · exact tb_0 i
      · exact (tb_bI hk i).trans (decide_eq_false e)
    rw [h2, Bool.or_false]
    by_cases q : i < k
    · rw [decide_eq_true q, decide_eq_true (by omega)]
    · rw [decide_eq_false q, decide_eq_false (by omega)]
theorem Pb_24 {x y : Int32} (h : Pb 24 x (tb y)) (hy : S24 y) : x = y := by
  apply tb_ext
  intro i _
  rw [h i]
  by_cases q : i < 24
  · rw [decide_eq_true q, Bool.true_and]
  · rw [decide_eq_false q, Bool.false_and, hy i (by omega)]
section SO
variable {w m : St} {s : Nat → Int32} {B : Nat} {ex rw0 li : List Nat}
theorem lk_0 (hS : SimB w s B ex rw0 li) (hE : En m s) {k : Nat} (hk : k < 24) : m.2 2 k = 0 ↔ tb (whI w.1) k = true := by
  rw [tb_wh w.1 (by omega)]
  constructor
  · intro a
    have hc : ¬ m.2 2 k < 0 := by rw [a]; decide
    have hp : tb (w.1 13) k = true := by
      cases e : tb (w.1 13) k
      · exact absurd ((En_neg hE hS.2.1 hk).mpr e) hc
      · rfl
    exact ⟨hp, (col_0 hS.2.2.2.2.1 hk hp).mp (((hE.1 k hk).2 hc).2.1.trans a)⟩
  · rintro ⟨hp, hw⟩
    obtain ⟨_, _, h5, _⟩ := En_c hE hk (p_one hS.2.1 k hk hp)
    exact h5.symm.trans ((col_0 hS.2.2.2.2.1 hk hp).mpr hw)
theorem lk_p (hS : SimB w s B ex rw0 li) (hE : En m s) {k : Nat} (hk : k < 24) (hc : ¬ m.2 2 k < 0) : tb (w.1 13) k = true ∧ m.2 2 k = if tb (w.1 17) k then 2 else if tb (w.1 16) k then 1 else 0 := by
  have hp : tb (w.1 13) k = true := by
    cases e : tb (w.1 13) k
    · exact absurd ((En_neg hE hS.2.1 hk).mpr e) hc
    · rfl
  exact ⟨hp, ((hE.1 k hk).2 hc).2.1.symm.trans (hS.2.2.2.2.1 k hk hp)⟩
theorem lk_1 (hS : SimB w s B ex rw0 li) (hE : En m s) {k : Nat} (hk : k < 24) : m.2 2 k = 1 ↔ tb (w.1 16) k = true := by
  constructor
  · intro a
    obtain ⟨hp, h5⟩ := lk_p hS hE hk (by rw [a]; decide)
    rw [a] at h5
    cases e : tb (w.1 17) k
    · rw [e] at h5
      cases e2 : tb (w.1 16) k
      · rw [e2] at h5; exact absurd h5 (by decide)
      · rfl
    · rw [e, if_pos rfl] at h5; exact absurd h5 (by decide)
  · intro a
    have hp := hS.1.2.2.2.2.2.1 k a
    have hb := hS.1.2.2.2.2.2.2.2 k a
    obtain ⟨hc, _⟩ := En_c hE hk (p_one hS.2.1 k hk hp)
    rw [(lk_p hS hE hk hc).2, hb, a]
    rfl
theorem lk_2 (hS : SimB w s B ex rw0 li) (hE : En m s) {k : Nat} (hk : k < 24) : m.2 2 k = 2 ↔ tb (w.1 17) k = true := by
  constructor
  · intro a
    obtain ⟨hp, h5⟩ := lk_p hS hE hk (by rw [a]; decide)
    rw [a] at h5
    cases e : tb (w.1 17) k
    · rw [e] at h5
      cases e2 : tb (w.1 16) k
      · rw [e2] at h5; exact absurd h5 (by decide)
      · rw [e2] at h5; exact absurd h5 (by decide)
    · rfl
  · intro a
    have hp := hS.1.2.2.2.2.2.2.1 k a
    obtain ⟨hc, _⟩ := En_c hE hk (p_one hS.2.1 k hk hp)
    rw [(lk_p hS hE hk hc).2, a]
    rfl
theorem if_b {x y : Int32} {c : Prop} [Decidable c] {b : Bool} (h : c ↔ b = true) : (if c then some x else some y) = some (if b then x else y) := by
  cases b
  · rw [if_neg (fun q => by cases h.mp q)]; rfl
  · rw [if_pos (h.mpr rfl)]; rfl
theorem isL29 (hS : SimB w s B ex rw0 li) (hE : En m s) (x9 : Int32) (t : TT) : ∀ (n k : Nat) (v : Nat → Int32), k ≤ 24 → 24 - k < n → Pb k (v 0) (tb (w.1 13)) → Pb k (v 3) (tb (whI w.1)) → Pb k (v 4) (tb (w.1 16)) → Pb k (v 5) (tb (w.1 17)) → Pb k (v 6) (tb (w.1 14)) →
    ∃ v', f_L_isSo_L29 n x9 (nI (cnt (tb (w.1 13)) k)) (nI k) (t, (m, v)) = some (nI (cnt (tb (w.1 13)) 24), (t, (m, v'))) ∧ Pb 24 (v' 0) (tb (w.1 13)) ∧ Pb 24 (v' 3) (tb (whI w.1)) ∧ Pb 24 (v' 4) (tb (w.1 16)) ∧ Pb 24 (v' 5) (tb (w.1 17)) ∧ Pb 24 (v' 6) (tb (w.1 14)) := by
  have cl3 : (3 : Int32).toNatClampNeg = 3 := by decide
  have cl4 : (4 : Int32).toNatClampNeg = 4 := by decide
  have cl5 : (5 : Int32).toNatClampNeg = 5 := by decide
  have cl6 : (6 : Int32).toNatClampNeg = 6 := by decide
  intro n
  induction n with
  | zero => intro k v _ h; omega
  | succ n ih =>
    intro k v hk hn p0 p3 p4 p5 p6
    by_cases h : k < 24
    · have ck : (nI k).toNatClampNeg = k := clN (by omega)
      have hneg := En_neg hE hS.2.1 h
      have o6 : (if m.2 2 k < 0 then some (0 : Int32) else some (1 : Int32)) = some (nI (if tb (w.1 13) k then 1 else 0)) := by
        cases e : tb (w.1 13) k
        · rw [if_pos (hneg.mpr e)]; rfl
        · rw [if_neg (fun q => by rw [hneg.mp q] at e; cases e)]; rfl
      have o12 : (if m.2 2 k < 0 then some (0 : Int32) else some (1 <<< (nI k &&& 31))) = some (if tb (w.1 13) k then bI (nI k) else 0) := by
        cases e : tb (w.1 13) k
        · rw [if_pos (hneg.mpr e)]; rfl
        · rw [if_neg (fun q => by rw [hneg.mp q] at e; cases e), sh_bI h]; rfl
      have o19 : (if m.2 2 k = 0 then some (1 <<< (nI k &&& 31)) else some (0 : Int32)) = some (if tb (whI w.1) k then bI (nI k) else 0) := by
        rw [sh_bI h]; exact if_b (lk_0 hS hE h)
      have o26 : (if m.2 2 k = 1 then some (1 <<< (nI k &&& 31)) else some (0 : Int32)) = some (if tb (w.1 16) k then bI (nI k) else 0) := by
        rw [sh_bI h]; exact if_b (lk_1 hS hE h)
      have o33 : (if m.2 2 k = 2 then some (1 <<< (nI k &&& 31)) else some (0 : Int32)) = some (if tb (w.1 17) k then bI (nI k) else 0) := by
        rw [sh_bI h]; exact if_b (lk_2 hS hE h)
      have o40 : (if m.2 2 k < 0 then some (0 : Int32) else if ib (nI k) 24 then (if m.2 3 k = 1 then some (1 <<< (nI k &&& 31)) else some (0 : Int32)) else none) = some (if tb (w.1 14) k then bI (nI k) else 0) := by
        by_cases hc : m.2 2 k < 0
        · have hp := hneg.mp hc
          have hw : tb (w.1 14) k = false := by
            cases z : tb (w.1 14) k
            · rfl
            · have := hS.1.2.2.2.2.1 k z
              rw [hp] at this
              cases this
          rw [if_pos hc, hw]; rfl
        · obtain ⟨hp, _⟩ := lk_p hS hE h hc
          rw [if_neg hc, if_pos (ib24 h), sh_bI h]
          refine if_b ?_
          rw [← ((hE.1 k h).2 hc).1, hS.2.2.2.1 k h hp]
          cases tb (w.1 14) k <;> simp
      have q0 := Pb_step p0 h
      have q3 := Pb_step p3 h
      have q4 := Pb_step p4 h
      have q5 := Pb_step p5 h
      have q6 := Pb_step p6 h
      have hst := ih (k + 1) (upd (upd (upd (upd (upd v 0 (v 0 ||| (if tb (w.1 13) k then bI (nI k) else 0))) 3 (v 3 ||| (if tb (whI w.1) k then bI (nI k) else 0))) 4 (v 4 ||| (if tb (w.1 16) k then bI (nI k) else 0))) 5 (v 5 ||| (if tb (w.1 17) k then bI (nI k) else 0))) 6 (v 6 ||| (if tb (w.1 14) k then bI (nI k) else 0))) (by omega) (by omega)
        (by rw [upd_ne (by decide), upd_ne (by decide), upd_ne (by decide), upd_ne (by decide), upd_eq]; exact q0) (by rw [upd_ne (by decide), upd_ne (by decide), upd_ne (by decide), upd_eq]; exact q3) (by rw [upd_ne (by decide), upd_ne (by decide), upd_eq]; exact q4) (by rw [upd_ne (by decide), upd_eq]; exact q5) (by rw [upd_eq]; exact q6)
      obtain ⟨v', e, r⟩ := hst
      refine ⟨v', ?_, r⟩
      rw [f_L_isSo_L29, if_pos ((ltL (by omega) (by omega)).mpr h), if_pos (ib24 h)]
      simp only [ck, cl_0, cl3, cl4, cl5, cl6]
      rw [o6, Option.bind_some, if_pos i7_0, if_pos (ib24 h), o12, Option.bind_some, if_pos i7_0, if_pos i7_3, if_pos (ib24 h), o19, Option.bind_some, if_pos i7_3, if_pos i7_4, if_pos (ib24 h), o26, Option.bind_some, if_pos i7_4, if_pos i7_5, if_pos (ib24 h), o33, Option.bind_some, if_pos i7_5, if_pos i7_6, if_pos (ib24 h), o40, Option.bind_some, if_pos i7_6]
      simp (disch := decide) only [upd_ne, addR, nI_add]
      rw [show cnt (tb (w.1 13)) (k + 1) = cnt (tb (w.1 13)) k + (if tb (w.1 13) k then 1 else 0) from rfl] at e
      exact e
    · have h4 : k = 24 := by omega
      subst h4
      refine ⟨v, ?_, p0, p3, p4, p5, p6⟩
      rw [f_L_isSo_L29, if_neg (by decide)]
theorem isL204 {v : Nat → Int32} (hv : ∀ k, k < 7 → f_X7_objects (nI k) (mkM s) = some (v k, mkM s)) (x11 : Int32) : ∀ (n k : Nat) (t : TT), k ≤ 7 → 7 - k < n → RelC t s B → ∃ t', f_L_isSo_L204 n 1 x11 (nI k) (t, (m, v)) = some (1, (t', (m, v))) ∧ RelC t' s B := by
  intro n
  induction n with
  | zero => intro k t _ h; omega
  | succ n ih =>
    intro k t hk hn hR
    by_cases h : k < 7
    · have ck : (nI k).toNatClampNeg = k := clN (by omega)
      obtain ⟨t1, e1, r1⟩ := Q_is (C_objects hR (nI k)) (hv k h)
      obtain ⟨t2, e2, r2⟩ := ih (k + 1) t1 (by omega) (by omega) r1
      refine ⟨t2, ?_, r2⟩
      rw [f_L_isSo_L204, if_pos ((ltL (by omega) (by omega)).mpr h), if_neg (show ¬ (1 : Int32) = 0 by decide), e1, Option.bind_some, if_pos ((ibN (by omega)).mpr h)]
      simp only [ck]
      rw [if_pos trivial, Option.bind_some, addR]
      exact e2
    · have h4 : k = 7 := by omega
      subst h4
      refine ⟨t, ?_, hR⟩
      rw [f_L_isSo_L204, if_neg (by decide)]
theorem refers_v (hE : En m s) {k : Nat} (hk : k < 8) : f_X7_refers (nI (k / 4)) (nI (k % 4)) (mkM s) = some (if m.2 7 k < 0 then -14 else m.2 7 k, mkM s) := by
  have hm : k % 4 < 4 := Nat.mod_lt _ (by omega)
  have hin : isI (nI (k % 4)) 4 = 1 := isI_in (by omega) hm
  have ht := hE.2.2.2.1 k hk
  have h01 : inI (nI (k / 4)) 0 1 = 1 := by
    rcases (by omega : k / 4 = 0 ∨ k / 4 = 1) with q | q <;> rw [q] <;> decide
  unfold f_X7_refers
  rw [e_in, h01, Option.bind_some]
  dsimp only
  rw [if_neg (by decide), e_isRoot, hin, Option.bind_some]
  dsimp only
  rw [if_neg (by decide)]
  by_cases h4 : k < 4
  · rw [show k / 4 = 0 by omega, show k % 4 = k by omega, if_pos (show nI 0 = 0 from rfl), addL, if_pos ((ibN (by omega)).mpr (by omega)), clN (by omega), mk_0, ht]
    split <;> rfl
  · rw [show k / 4 = 1 by omega, if_neg (show ¬ nI 1 = 0 by decide), addL, if_pos ((ibN (by omega)).mpr (by omega)), clN (by omega), mk_0, show 222 + k % 4 = 218 + k by omega, ht]
    split <;> rfl
theorem isL246 (hE : En m s) {v : Nat → Int32} (x11 : Int32) : ∀ (n k : Nat) (t : TT), k ≤ 8 → 8 - k < n → RelC t s B → ∃ t', f_L_isSo_L246 n 1 x11 (nI k) (t, (m, v)) = some (1, (t', (m, v))) ∧ RelC t' s B := by
  intro n
  induction n with
  | zero => intro k t _ h; omega
  | succ n ih =>
    intro k t hk hn hR
    by_cases h : k < 8
    · have ck : (nI k).toNatClampNeg = k := clN (by omega)
      obtain ⟨t1, e1, r1⟩ := Q_is (C_refers hR (nI (k / 4)) (nI (k % 4))) (refers_v hE h)
      obtain ⟨t2, e2, r2⟩ := ih (k + 1) t1 (by omega) (by omega) r1
      have hv : (if m.2 7 k < 0 then some ((-14) : Int32) else if ib (nI k) 8 then some (m.2 7 k) else none) = some (if m.2 7 k < 0 then -14 else m.2 7 k) := by
        by_cases q : m.2 7 k < 0
        · rw [if_pos q, if_pos q]
        · rw [if_neg q, if_neg q, if_pos (ib8 h)]
      refine ⟨t2, ?_, r2⟩
      rw [f_L_isSo_L246, if_pos ((ltL (by omega) (by omega)).mpr h), if_neg (show ¬ (1 : Int32) = 0 by decide), remL (by omega) (by omega) (by omega), divL (by omega) (by omega) (by omega), e1, Option.bind_some, if_pos (ib8 h)]
      simp only [ck]
      rw [hv, Option.bind_some, if_pos rfl, Option.bind_some, addR]
      exact e2
    · have h4 : k = 8 := by omega
      subst h4
      refine ⟨t, ?_, hR⟩
      rw [f_L_isSo_L246, if_neg (by decide)]
theorem isL307 (hE : En m s) {L : Nat} (hL : L ≤ 24) (hs : s 168 = nI L) {v : Nat → Int32} (x11 : Int32) : ∀ (n k : Nat) (t : TT), k ≤ L → L - k < n → RelC t s B → ∃ t', f_L_isSo_L307 n 1 x11 (nI k) (t, (m, v)) = some (1, (t', (m, v))) ∧ RelC t' s B := by
  have h10 : m.2 0 10 = nI L := (En_g hE).2.2.2.2.2.2.2.2.2.2.symm.trans hs
  intro n
  induction n with
  | zero => intro k t _ h; omega
  | succ n ih =>
    intro k t hk hn hR
    by_cases h : k < L
    · have ck : (nI k).toNatClampNeg = k := clN (by omega)
      have hlt : nI k < nI L := (nI_ltI (by omega) (by omega)).mpr h
      have hg : f_X7_grey (nI k) (mkM s) = some (m.2 6 k, mkM s) := by
        unfold f_X7_grey
        simp only [c168]
        rw [if_neg (nI_pos (by omega)), if_pos ib168, mk_0, hs, if_pos hlt, addL, if_pos ((ibN (by omega)).mpr (by omega)), clN (by omega), (hE.2.2.1 k (by omega)).2]
      obtain ⟨t1, e1, r1⟩ := Q_is (C_grey hR (nI k)) hg
      obtain ⟨t2, e2, r2⟩ := ih (k + 1) t1 (by omega) (by omega) r1
      refine ⟨t2, ?_, r2⟩
      rw [f_L_isSo_L307, if_pos i11_10]
      simp only [cl_10, h10, ck]
      rw [if_pos hlt, if_neg (show ¬ (1 : Int32) = 0 by decide), e1, Option.bind_some, if_pos (ib24 (by omega))]
      dsimp only
      rw [if_pos rfl, Option.bind_some, addR]
      exact e2
    · have h4 : k = L := by omega
      subst h4
      refine ⟨t, ?_, hR⟩
      rw [f_L_isSo_L307, if_pos i11_10]
      simp only [cl_10, h10]
      rw [if_neg (fun q => by have := (nI_ltI (by omega) (by omega)).mp q; omega)]
end SO

