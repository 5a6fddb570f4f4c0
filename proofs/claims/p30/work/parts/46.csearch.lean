/-! PURE: the law's searches beside the class's -/
def InvJ (p : JT) (B : Nat) : Prop := ∃ s, RelC p.1 s B ∧ En p.2 s ∧ Bal s
theorem divL {a n : Nat} (ha : a < 2147483648) (h0 : 0 < (OfNat.ofNat n : Nat)) (hn : (OfNat.ofNat n : Nat) < 2147483648) : nI a / (no_index (OfNat.ofNat n) : Int32) = nI (a / (OfNat.ofNat n : Nat)) := pk_div (d := n) ha h0 hn
theorem remL {a n : Nat} (ha : a < 2147483648) (h0 : 0 < (OfNat.ofNat n : Nat)) (hn : (OfNat.ofNat n : Nat) < 2147483648) : nI a - nI a / (no_index (OfNat.ofNat n) : Int32) * (no_index (OfNat.ofNat n) : Int32) = nI (a % (OfNat.ofNat n : Nat)) := pk_rem (d := n) ha h0 hn
theorem Chg_is {s s0 : Nat → Int32} {B : Nat} {co : Option (Int32 × TT)} {mo : Option (Int32 × St)} {v0 : Int32} (h : Chg s B co mo) (hm : mo = some (v0, sG (mkM s) 0 s0)) : ∃ t', co = some (v0, t') ∧ RelC t' s0 (B + 1) := by
  obtain ⟨v, t', s', e1, e2, e3⟩ := h
  rcases e2 with ⟨_, e2, rfl⟩ | ⟨_, e2⟩
  · have e := e2.symm.trans hm
    injection e with e
    injection e with a b
    subst a
    have : s' = s0 := by
      have := congrArg (fun q : St => q.2 0) b
      simp only [sG_2] at this
      exact this
    subst this
    exact ⟨t', e1, e3⟩
  · have e := e2.symm.trans hm
    injection e with e
    injection e with a b
    subst a
    have := sG_inj b
    subst this
    exact ⟨t', e1, e3⟩
theorem Chg_no {s : Nat → Int32} {B : Nat} {co : Option (Int32 × TT)} {mo : Option (Int32 × St)} {v0 : Int32} (h : Chg s B co mo) (hm : mo = some (v0, mkM s)) : ∃ t', co = some (v0, t') ∧ RelC t' s (B + 1) :=
  Chg_is h (by rw [show sG (mkM s) 0 s = mkM s from sG_self (mkM s) 0]; exact hm)
theorem part_E {w : St} {s : Nat → Int32} {B : Nat} {ex rw li : List Nat} {m : St} (h : SimB w s B ex rw li) (hE : En m s) : m.2 0 0 = w.1 15 ∧ s 226 = w.1 15 := ⟨(En_g hE).1.symm.trans h.2.2.2.2.2.2.2.2.2.2.2.2.1.1, h.2.2.2.2.2.2.2.2.2.2.2.2.1.1⟩
theorem T_begin {t : TT} {m : St} {s : Nat → Int32} {B Y : Nat} (h : RelC t s B) (hE : En m s) (hbal : Bal s) : ∃ p', f_L_searches 0 (nI Y) (t, m) = some (1, p') ∧ InvJ p' (B + 1) := by
  obtain ⟨rw, li, hS⟩ := h.2.2
  obtain ⟨g0, s226⟩ := part_E hS.1 hE
  have hI := hS.1.2.2.2.2.2.2.2.2.2.2.2.2.2
  have hc := C_begin h
  by_cases hp : (t.1 0).1 15 = 0
  · obtain ⟨w', s', rw', m', e1, e2, e3, e4, e5, e6, _⟩ := T_start (M := mkM s) hS hp hE
    have hx : f_X7_begin (mkM s) = some (s' 168, sG (mkM s) 0 s') := by
      unfold f_X7_begin
      rw [if_pos ib226, c226, show (mkM s).2 0 226 = 0 from s226.trans hp, if_neg (by decide), chg_mk, Option.bind_some]
      dsimp only
      rw [e2, Option.bind_some, if_pos ib168, c168]
      simp only [sG_2]
    obtain ⟨t', q1, q2⟩ := Chg_is hc hx
    refine ⟨(t', m'), ?_, s', q2, e5, e6.bal hbal⟩
    have h10 : s' 168 = m'.2 0 10 := (En_g e5).2.2.2.2.2.2.2.2.2.2
    unfold f_L_searches
    rw [if_pos rfl, if_pos i11_0]
    simp only [cl_0, cl_10]
    rw [ if_neg (show ¬ (0 : Int32) < m.2 0 0 by rw [g0, hp]; decide), e3, Option.bind_some]
    dsimp only
    rw [q1, Option.bind_some, if_pos i11_10]
    dsimp only
    rw [if_pos h10]
  · have hpos : (0 : Int32) < (t.1 0).1 15 := (part_pos hI).mpr hp
    have hx : f_X7_begin (mkM s) = some (-12, mkM s) := by
      unfold f_X7_begin
      rw [if_pos ib226, c226, show (mkM s).2 0 226 = (t.1 0).1 15 from s226, if_pos hpos]
    obtain ⟨t', q1, q2⟩ := Chg_no hc hx
    refine ⟨(t', m), ?_, s, q2, hE, hbal⟩
    unfold f_L_searches
    rw [if_pos rfl, if_pos i11_0]
    simp only [cl_0, cl_10]
    rw [ if_pos (show (0 : Int32) < m.2 0 0 by rw [g0]; exact hpos), q1, Option.bind_some]
    dsimp only
    rw [if_pos rfl]
theorem T_steps {B x : Nat} (hx : x < 100) (y z : Int32) (t : TT) : ∀ (n j : Nat) (w m M : St) (rw li : List Nat), j ≤ x → x - j < n → SimL w (M.2 0) B rw li → En m (M.2 0) →
    ∃ s' m', f_X7_step_L42 n (nI x) z (nI j) M = some (sG M 0 s') ∧ f_L_searches_L113 n (nI x) y (nI j) (t, m) = some (t, m') ∧ En m' s' ∧ (Bal (M.2 0) → Bal s') := by
  intro n
  induction n with
  | zero => intro j w m M rw li _ h; omega
  | succ n ih =>
    intro j w m M rw li hj hn hS hE
    obtain ⟨g0, s226⟩ := part_E hS.1 hE
    have hI := hS.1.2.2.2.2.2.2.2.2.2.2.2.2.2
    have hx226 : M.2 0 (226 : Int32).toNatClampNeg = w.1 15 := by rw [c226]; exact s226
    by_cases h : j < x
    · have hlt : nI j < nI x := (nI_ltI (by omega) (by omega)).mpr h
      by_cases hp : w.1 15 = 0
      · refine ⟨M.2 0, m, ?_, ?_, hE, id⟩
        · rw [f_X7_step_L42, if_pos hlt, if_pos ib226, hx226, if_neg (fun q => ((part_pos hI).mp q) hp), sG_self]
        · rw [f_L_searches_L113, if_pos hlt, if_pos i11_0]
          simp only [cl_0]
          rw [if_neg (show ¬ (0 : Int32) < m.2 0 0 by rw [g0, hp]; decide)]
      · obtain ⟨w1, s1, rw1, li1, m1, _, e2, e3, e4, e5, _, _, _, _, hb⟩ := T_go hS hp hE
        obtain ⟨s2, m2, e6, e7, e8, e9⟩ := ih (j + 1) w1 m1 (sG M 0 s1) rw1 li1 (by omega) (by omega) (by rw [sG_2]; exact e4) (by rw [sG_2]; exact e5)
        rw [sG_sG] at e6
        rw [sG_2] at e9
        refine ⟨s2, m2, ?_, ?_, e8, fun q => e9 (hb q)⟩
        · rw [f_X7_step_L42, if_pos hlt, if_pos ib226, hx226, if_pos ((part_pos hI).mpr hp), e2, Option.bind_some, addR]
          exact e6
        · rw [f_L_searches_L113, if_pos hlt, if_pos i11_0]
          simp only [cl_0]
          rw [if_pos (show (0 : Int32) < m.2 0 0 by rw [g0]; exact (part_pos hI).mpr hp), e3, Option.bind_some, addR]
          exact e7
    · have hnlt : ¬ nI j < nI x := fun q => by have := (nI_ltI (by omega) (by omega)).mp q; omega
      refine ⟨M.2 0, m, ?_, ?_, hE, id⟩
      · rw [f_X7_step_L42, if_neg hnlt, sG_self]
      · rw [f_L_searches_L113, if_neg hnlt]
theorem in99 {x : Nat} (h1 : 0 < x) (h2 : x < 100) : inI (nI x) 1 99 = 1 := by
  unfold inI
  rw [if_neg (fun q => by have := (nI_ltI (a := x) (b := 1) (by omega) (by omega)).mp q; omega), if_neg (fun q => by have := (nI_ltI (a := 99) (b := x) (by omega) (by omega)).mp q; omega)]
theorem T_step {t : TT} {m : St} {s : Nat → Int32} {B Y : Nat} (hY : Y < 10000000) (h : RelC t s B) (hE : En m s) (hbal : Bal s) : ∃ p', f_L_searches 1 (nI Y) (t, m) = some (1, p') ∧ InvJ p' (B + 1) := by
  obtain ⟨rw, li, hS⟩ := h.2.2
  obtain ⟨g0, s226⟩ := part_E hS.1 hE
  have hI := hS.1.2.2.2.2.2.2.2.2.2.2.2.2.2
  obtain ⟨q, hq, hq0, hqe⟩ : ∃ q, q ≤ 99 ∧ 0 < q ∧ (if (nI Y - nI Y / 5 * 5) = 0 then some (99 : Int32) else some (5 : Int32)) = some (nI q) := by
    by_cases z : nI Y - nI Y / 5 * 5 = 0
    · exact ⟨99, by omega, by omega, by rw [if_pos z]; rfl⟩
    · exact ⟨5, by omega, by omega, by rw [if_neg z]; rfl⟩
  have hmod : Y % q < q := Nat.mod_lt _ hq0
  have hmany : (1 : Int32) + (nI Y - nI Y / nI q * nI q) = nI (1 + Y % q) := by rw [pk_rem (by omega) hq0 (by omega), addL]
  have hc := C_step h (nI (1 + Y % q))
  have hqz : ¬ nI q = 0 := fun z => by have := (nI_eq (a := q) (b := 0) (by omega) (by omega)).mp z; omega
  by_cases hp : (t.1 0).1 15 = 0
  · have hx : f_X7_step (nI (1 + Y % q)) (mkM s) = some (-12, mkM s) := by
      unfold f_X7_step
      rw [e_in, in99 (by omega) (by omega), Option.bind_some]
      dsimp only
      rw [if_neg (by decide), if_pos ib226, c226, show (mkM s).2 0 226 = 0 from s226.trans hp, if_pos rfl]
    obtain ⟨t', q1, q2⟩ := Chg_no hc hx
    refine ⟨(t', m), ?_, s, q2, hE, hbal⟩
    unfold f_L_searches
    rw [if_neg (by decide), if_pos rfl, hqe, Option.bind_some, if_pos hqz, if_pos i11_0]
    simp only [cl_0, cl_4]
    rw [if_pos (g0.trans hp), hmany, q1, Option.bind_some]
    dsimp only
    rw [if_pos rfl]
  · obtain ⟨s', m', e1, e2, e3, e4⟩ := T_steps (x := 1 + Y % q) (by omega) (m.2 0 4) (s 230) t BIG 0 (t.1 0) m (mkM s) rw li (by omega) (by unfold BIG; omega) hS hE
    have c230 : (230 : Int32).toNatClampNeg = 230 := by decide
    have ib230 : ib 230 235 := by decide
    have hx : f_X7_step (nI (1 + Y % q)) (mkM s) = some (s' 230 - s 230, sG (mkM s) 0 s') := by
      unfold f_X7_step
      rw [e_in, in99 (by omega) (by omega), Option.bind_some]
      dsimp only
      rw [if_neg (by decide), if_pos ib226, c226, show (mkM s).2 0 226 = (t.1 0).1 15 from s226, if_neg hp, chg_mk, Option.bind_some]
      dsimp only
      rw [if_pos ib230]
      simp only [c230, mk_0]
      rw [show f_X7_step_L42 BIG (nI (1 + Y % q)) (s 230) 0 (mkM s) = some (sG (mkM s) 0 s') from e1, Option.bind_some, if_pos ib230]
      simp only [sG_2]
    obtain ⟨t', q1, q2⟩ := Chg_is hc hx
    refine ⟨(t', m'), ?_, s', q2, e3, e4 hbal⟩
    have hv : s' 230 - s 230 = m'.2 0 4 - m.2 0 4 := by rw [(En_g e3).2.2.2.2.1, (En_g hE).2.2.2.2.1]
    unfold f_L_searches
    rw [if_neg (by decide), if_pos rfl, hqe, Option.bind_some, if_pos hqz, if_pos i11_0]
    simp only [cl_0, cl_4]
    rw [if_neg (fun z => hp (g0.symm.trans z)), if_pos i11_4, hmany, show f_L_searches_L113 BIG (nI (1 + Y % q)) (m.2 0 4) 0 (t, m) = some (t, m') from e2, Option.bind_some]
    dsimp only
    rw [q1, Option.bind_some, if_pos i11_4]
    dsimp only
    rw [if_pos hv]
theorem T_all_loop {B : Nat} (t : TT) : ∀ (n j : Nat) (w m M : St) (rw li : List Nat), mu w.1 < n → mu w.1 + j < 10000 → SimL w (M.2 0) B rw li → En m (M.2 0) →
    ∃ s' m' j', f_X7_doesAll_L17 n (nI j) M = some (nI j', sG M 0 s') ∧ f_L_searches_L195 n (nI j) (t, m) = some (nI j', (t, m')) ∧ En m' s' ∧ (Bal (M.2 0) → Bal s') := by
  intro n
  induction n with
  | zero => intro j w m M rw li h; omega
  | succ n ih =>
    intro j w m M rw li h1 h2 hS hE
    obtain ⟨g0, s226⟩ := part_E hS.1 hE
    have hI := hS.1.2.2.2.2.2.2.2.2.2.2.2.2.2
    have hx226 : M.2 0 (226 : Int32).toNatClampNeg = w.1 15 := by rw [c226]; exact s226
    by_cases hp : w.1 15 = 0
    · refine ⟨M.2 0, m, j, ?_, ?_, hE, id⟩
      · rw [f_X7_doesAll_L17, if_pos ib226, hx226, if_neg (fun q => ((part_pos hI).mp q) hp), sG_self]
      · rw [f_L_searches_L195, if_pos i11_0]
        simp only [cl_0]
        rw [if_neg (show ¬ (0 : Int32) < m.2 0 0 by rw [g0, hp]; decide)]
    · obtain ⟨w1, s1, rw1, li1, m1, _, e2, e3, e4, e5, e6, _, _, _, hb⟩ := T_go hS hp hE
      obtain ⟨s2, m2, j2, e7, e8, e9, e10⟩ := ih (j + 1) w1 m1 (sG M 0 s1) rw1 li1 (by omega) (by omega) (by rw [sG_2]; exact e4) (by rw [sG_2]; exact e5)
      rw [sG_sG] at e7
      rw [sG_2] at e10
      refine ⟨s2, m2, j2, ?_, ?_, e9, fun q => e10 (hb q)⟩
      · rw [f_X7_doesAll_L17, if_pos ib226, hx226, if_pos ((part_pos hI).mpr hp), e2, Option.bind_some, addR]
        exact e7
      · rw [f_L_searches_L195, if_pos i11_0]
        simp only [cl_0]
        rw [if_pos (show (0 : Int32) < m.2 0 0 by rw [g0]; exact (part_pos hI).mpr hp), e3, Option.bind_some, addR]
        exact e8
theorem T_all {t : TT} {m : St} {s : Nat → Int32} {B Y : Nat} (h : RelC t s B) (hE : En m s) (hbal : Bal s) : ∃ p', f_L_searches 2 (nI Y) (t, m) = some (1, p') ∧ InvJ p' (B + 1) := by
  obtain ⟨rw, li, hS⟩ := h.2.2
  obtain ⟨g0, s226⟩ := part_E hS.1 hE
  have hc := C_all h
  have hbig : mu (t.1 0).1 < BIG := by have := mu_le (t.1 0).1; unfold BIG; omega
  by_cases hp : (t.1 0).1 15 = 0
  · obtain ⟨w', s1, rw', m1, e1, e2, e3, e4, e5, e5b, _⟩ := T_start (M := mkM s) hS hp hE
    have hmw := mu_le w'.1
    obtain ⟨s', m', j, e6, e7, e8, e9⟩ := T_all_loop t BIG 0 w' m1 (sG (mkM s) 0 s1) rw' li (by unfold BIG; omega) (by omega) (by rw [sG_2]; exact e4) (by rw [sG_2]; exact e5)
    rw [sG_sG] at e6
    rw [sG_2] at e9
    have hbal' := e9 (e5b.bal hbal)
    have hx : f_X7_all (mkM s) = some (nI j, sG (mkM s) 0 s') := by
      unfold f_X7_all f_X7_doesAll
      rw [chg_mk, Option.bind_some]
      dsimp only
      rw [if_pos ib226, c226, show (mkM s).2 0 226 = 0 from s226.trans hp, if_pos rfl, e2, Option.bind_some]
      dsimp only
      rw [show f_X7_doesAll_L17 BIG 0 (sG (mkM s) 0 s1) = _ from e6]
      rfl
    obtain ⟨t', q1, q2⟩ := Chg_is hc hx
    refine ⟨(t', m'), ?_, s', q2, e8, hbal'⟩
    unfold f_L_searches
    rw [if_neg (by decide), if_neg (by decide), if_pos rfl, if_pos i11_0]
    simp only [cl_0]
    rw [ if_pos (g0.trans hp), e3, Option.bind_some, Option.bind_some]
    dsimp only
    rw [show f_L_searches_L195 BIG 0 (t, m1) = some (nI j, (t, m')) from e7, Option.bind_some]
    dsimp only
    rw [q1, Option.bind_some]
    dsimp only
    rw [if_pos rfl]
  · obtain ⟨s', m', j, e6, e7, e8, e9⟩ := T_all_loop t BIG 0 (t.1 0) m (mkM s) rw li hbig (by have := mu_le (t.1 0).1; omega) hS hE
    have hbal' := e9 hbal
    have hx : f_X7_all (mkM s) = some (nI j, sG (mkM s) 0 s') := by
      unfold f_X7_all f_X7_doesAll
      rw [chg_mk, Option.bind_some]
      dsimp only
      rw [if_pos ib226, c226, show (mkM s).2 0 226 = (t.1 0).1 15 from s226, if_neg hp, show f_X7_doesAll_L17 BIG 0 (mkM s) = _ from e6]
      rfl
    obtain ⟨t', q1, q2⟩ := Chg_is hc hx
    refine ⟨(t', m'), ?_, s', q2, e8, hbal'⟩
    unfold f_L_searches
    rw [if_neg (by decide), if_neg (by decide), if_pos rfl, if_pos i11_0]
    simp only [cl_0]
    rw [ if_neg (fun z => hp (g0.symm.trans z)), Option.bind_some]
    rw [show f_L_searches_L195 BIG 0 (t, m) = some (nI j, (t, m')) from e7, Option.bind_some]
    dsimp only
    rw [q1, Option.bind_some]
    dsimp only
    rw [if_pos rfl]
theorem T_set {t : TT} {m : St} {s : Nat → Int32} {B Y : Nat} (hY : Y < 10000000) (h : RelC t s B) (hE : En m s) (hbal : Bal s) : ∃ p', f_L_searches 3 (nI Y) (t, m) = some (1, p') ∧ InvJ p' (B + 1) := by
  obtain ⟨rw, li, hS⟩ := h.2.2
  obtain ⟨g0, s226⟩ := part_E hS.1 hE
  have hI := hS.1.2.2.2.2.2.2.2.2.2.2.2.2.2
  have hm : Y % 2 < 2 := Nat.mod_lt _ (by omega)
  have hv : (1 : Int32) + (nI Y - nI Y / 2 * 2) = nI (1 + Y % 2) := by rw [remL (by omega) (by omega) (by omega), addL]
  have hc := C_set h (nI (1 + Y % 2))
  have hin : inI (nI (1 + Y % 2)) 1 2 = 1 := by
    rcases (by omega : Y % 2 = 0 ∨ Y % 2 = 1) with q | q <;> rw [q] <;> decide
  have g8 : s 234 = m.2 0 8 := (En_g hE).2.2.2.2.2.2.2.2.1
  have u80 : ∀ v, upd (m.2 0) 8 v 0 = m.2 0 0 := fun v => upd_ne (by decide)
  by_cases hp : (t.1 0).1 15 = 0
  · have hx : f_X7_set (nI (1 + Y % 2)) (mkM s) = some (s 234, sG (mkM s) 0 (upd s 234 (nI (1 + Y % 2)))) := by
      unfold f_X7_set
      rw [e_in, hin, Option.bind_some]
      dsimp only
      rw [if_neg (by decide), if_pos ib226, c226, show (mkM s).2 0 226 = 0 from s226.trans hp, if_neg (by decide), chg_mk, Option.bind_some, if_pos ib234, if_pos ib234, c234]
      unfold sA
      rw [c234]
      rfl
    obtain ⟨t', q1, q2⟩ := Chg_is hc hx
    refine ⟨(t', sG m 0 (upd (m.2 0) 8 (nI (1 + Y % 2)))), ?_, _, q2, E_g8 hE _, frB.bal ⟨fun y hy => by rw [upd_ne (by omega)], by rw [upd_ne (by omega)], by rw [upd_ne (by omega)]⟩ hbal⟩
    unfold f_L_searches
    rw [if_neg (by decide), if_neg (by decide), if_neg (by decide), if_pos i11_8, if_pos i11_0]
    simp only [cl_0, cl_8, sA, sG_2, u80, hv]
    rw [ if_neg (show ¬ (0 : Int32) < m.2 0 0 by rw [g0, hp]; decide), Option.bind_some, if_pos i11_8, q1, Option.bind_some, if_pos i11_0, if_neg (show ¬ (0 : Int32) < m.2 0 0 by rw [g0, hp]; decide), Option.bind_some]
    dsimp only
    rw [if_pos g8]
  · have hpos : (0 : Int32) < (t.1 0).1 15 := (part_pos hI).mpr hp
    have hx : f_X7_set (nI (1 + Y % 2)) (mkM s) = some (-12, mkM s) := by
      unfold f_X7_set
      rw [e_in, hin, Option.bind_some]
      dsimp only
      rw [if_neg (by decide), if_pos ib226, c226, show (mkM s).2 0 226 = (t.1 0).1 15 from s226, if_pos hpos]
    obtain ⟨t', q1, q2⟩ := Chg_no hc hx
    refine ⟨(t', m), ?_, s, q2, hE, hbal⟩
    unfold f_L_searches
    rw [if_neg (by decide), if_neg (by decide), if_neg (by decide), if_pos i11_8, if_pos i11_0]
    simp only [cl_0, cl_8, sA, sG_2, u80, hv]
    rw [ if_pos (show (0 : Int32) < m.2 0 0 by rw [g0]; exact hpos), Option.bind_some, if_pos i11_8, q1, Option.bind_some, if_pos i11_0, if_pos (show (0 : Int32) < m.2 0 0 by rw [g0]; exact hpos), Option.bind_some]
    dsimp only
    rw [if_pos rfl, upd_self, sG_self]
