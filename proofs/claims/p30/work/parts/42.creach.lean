/-! PURE: what is reached, by the law's own search -/
theorem at_s {m : St} {s : Nat → Int32} (h : En m s) {i : Nat} (hi : i < 72) : ∃ v, f_L_at (nI i) m = some (v, m) ∧ (s (7 * (i / 3)) = 1 → v = mF s i) := by
  obtain ⟨a, h1, h2, h3⟩ := h.2.1 (i / 3) (by omega)
  refine ⟨_, e_Lat hi h1 h2, fun q => ?_⟩
  rw [← h3 (En_pres h (by omega) q) (i % 3) (by omega)]
  unfold mF
  congr 1
  omega
theorem lsp15 {m : St} {s : Nat → Int32} {C0 : Nat → Prop} (hE : En m s) (hg : goodC s C0) (hp : ∀ k, k < 24 → C0 k → s (7 * k) = 1) (x2 x4 : Int32) : ∀ (n i : Nat) (acc : Int32), i ≤ 72 → 72 - i < n → S24 acc → (∀ j, j < 24 → tb acc j = true → C0 j) →
    ∃ r, f_L_spread_L15 n x2 acc x4 (nI i) m = some (r, m) ∧ S24 r ∧ (∀ j, j < 24 → tb acc j = true → tb r j = true) ∧ (∀ j, j < 24 → tb r j = true → C0 j) ∧
      (∀ C : Nat → Prop, (∀ j, j < 24 → tb acc j = true → C j) → (∀ k j, k < 24 → j < 24 → C k → edge (mF s) k j → ¬ x2 = nI j → C j) → ∀ j, j < 24 → tb r j = true → C j) ∧
      (∀ i' j, i ≤ i' → i' < 72 → j < 24 → tb acc (i' / 3) = true → mF s i' = nI j → ¬ x2 = nI j → tb r j = true) := by
  intro n
  induction n with
  | zero => intro i acc _ h; omega
  | succ n ih =>
    intro i acc hi hn h24 hC
    by_cases h : i < 72
    · have hd : nI i / 3 = nI (i / 3) := nI_div3 h
      have h3 : i / 3 < 24 := by omega
      obtain ⟨v, ev, hv⟩ := at_s hE h
      rcases (Bool.eq_false_or_eq_true (tb acc (i / 3))).symm with hb | hb
      · obtain ⟨r, e, r1, r2, r3, r4, r5⟩ := ih (i + 1) acc (by omega) (by omega) h24 hC
        refine ⟨r, ?_, r1, r2, r3, r4, fun i' j a1 a2 a3 a4 a5 a6 => ?_⟩
        · rw [f_L_spread_L15]
          simp (disch := omega) only [ltL, h, if_true, ev, Option.bind_some, hd, shr_1 h3, hb, Bool.false_eq_true, if_false, or_0, addR]
          exact e
        · by_cases ei : i' = i
          · subst ei; rw [hb] at a4; cases a4
          · exact r5 i' j (by omega) a2 a3 a4 a5 a6
      · have hk := hC (i / 3) h3 hb
        have hv := hv (hp _ h3 hk)
        have hstep : f_L_spread_L15 (n + 1) x2 acc x4 (nI i) m = (if v < 0 then some (0 : Int32) else if v = x2 then some 0 else some (1 <<< (v &&& 31))).bind fun o6 => f_L_spread_L15 n x2 (acc ||| o6) x4 (nI (i + 1)) m := by
          rw [f_L_spread_L15]
          simp (disch := omega) only [ltL, h, if_true, ev, Option.bind_some, hd, shr_1 h3, hb, addR]
        rcases hg (i / 3) h3 hk (i % 3) (by omega) with hv1 | ⟨j0, hj0, hc0, hv1⟩
        · have hv2 : v = -1 := by
            rw [hv]; unfold mF; rw [← hv1]; congr 1; omega
          obtain ⟨r, e, r1, r2, r3, r4, r5⟩ := ih (i + 1) acc (by omega) (by omega) h24 hC
          refine ⟨r, ?_, r1, r2, r3, r4, fun i' j a1 a2 a3 a4 a5 a6 => ?_⟩
          · rw [hstep, hv2, if_pos (by decide), Option.bind_some, or_0]
            exact e
          · by_cases ei : i' = i
            · subst ei; rw [← hv, hv2] at a5; exact absurd a5.symm (nI_ne_m1 (by omega))
            · exact r5 i' j (by omega) a2 a3 a4 a5 a6
        · have hv2 : v = nI j0 := by
            rw [hv]; unfold mF; rw [← hv1]; congr 1; omega
          by_cases hx : x2 = nI j0
          · obtain ⟨r, e, r1, r2, r3, r4, r5⟩ := ih (i + 1) acc (by omega) (by omega) h24 hC
            refine ⟨r, ?_, r1, r2, r3, r4, fun i' j a1 a2 a3 a4 a5 a6 => ?_⟩
            · rw [hstep, hv2, if_neg (nI_pos (by omega)), if_pos hx.symm, Option.bind_some, or_0]
              exact e
            · by_cases ei : i' = i
              · subst ei; rw [← hv, hv2] at a5; exact absurd (hx.trans a5) a6
              · exact r5 i' j (by omega) a2 a3 a4 a5 a6
          · have tn : ∀ j, tb (acc ||| bI (nI j0)) j = true ↔ tb acc j = true ∨ j = j0 := by
              intro j
              rw [tb_or, tb_bI hj0, Bool.or_eq_true, decide_eq_true_iff]
            obtain ⟨r, e, r1, r2, r3, r4, r5⟩ := ih (i + 1) (acc ||| bI (nI j0)) (by omega) (by omega) (S24_or h24 (S24_bI _)) (fun j hj q => ((tn j).mp q).elim (hC j hj) (fun e => e ▸ hc0))
            refine ⟨r, ?_, r1, fun j hj q => r2 j hj ((tn j).mpr (Or.inl q)), r3, fun C c1 c2 j hj q => r4 C (fun j hj q => ?_) c2 j hj q, fun i' j a1 a2 a3 a4 a5 a6 => ?_⟩
            · rw [hstep, hv2, if_neg (nI_pos (by omega)), if_neg (fun q => hx q.symm), Option.bind_some, sh_bI hj0]
              exact e
            · rcases (tn j).mp q with a | a
              · exact c1 j hj a
              · subst a
                refine c2 (i / 3) j h3 hj (c1 _ h3 hb) ⟨i % 3, by omega, ?_⟩ hx
                rw [show 3 * (i / 3) + i % 3 = i by omega, ← hv, hv2]
            · by_cases ei : i' = i
              · subst ei
                rw [← hv, hv2] at a5
                have := nI_inj (by omega) (by omega) a5
                subst this
                exact r2 j0 hj0 ((tn j0).mpr (Or.inr rfl))
              · exact r5 i' j (by omega) a2 a3 ((tn _).mpr (Or.inl a4)) a5 a6
    · have h4 : i = 72 := by omega
      subst h4
      refine ⟨acc, ?_, h24, fun _ _ q => q, hC, fun C c1 _ => c1, fun i' j a1 a2 => by omega⟩
      rw [f_L_spread_L15]
      simp (disch := omega) only [ltL, if_false, Nat.lt_irrefl]
theorem c24_full {x : Int32} (h : 24 ≤ c24 x) : ∀ j, j < 24 → tb x j = true := by
  intro j hj
  cases e : tb x j
  · have := cnt_lt (f := tb x) (g := fun _ => true) (n := 24) (k := j) (fun _ _ _ => rfl) hj e rfl
    have h2 := cnt_le (fun _ => true) 24
    unfold c24 at h
    omega
  · rfl
def clo (s : Nat → Int32) (x2 : Int32) (r : Int32) : Prop := ∀ k j, k < 24 → j < 24 → tb r k = true → edge (mF s) k j → ¬ x2 = nI j → tb r j = true
theorem lsp5 {m : St} {s : Nat → Int32} {C0 : Nat → Prop} (hE : En m s) (hg : goodC s C0) (hp : ∀ k, k < 24 → C0 k → s (7 * k) = 1) (x2 : Int32) : ∀ (n q : Nat) (acc : Int32), q ≤ 24 → 24 - q < n → S24 acc → (∀ j, j < 24 → tb acc j = true → C0 j) → (clo s x2 acc ∨ q ≤ c24 acc) →
    ∃ r, f_L_spread_L5 n x2 acc (nI q) m = some (r, m) ∧ S24 r ∧ (∀ j, j < 24 → tb acc j = true → tb r j = true) ∧ (∀ j, j < 24 → tb r j = true → C0 j) ∧
      (∀ C : Nat → Prop, (∀ j, j < 24 → tb acc j = true → C j) → (∀ k j, k < 24 → j < 24 → C k → edge (mF s) k j → ¬ x2 = nI j → C j) → ∀ j, j < 24 → tb r j = true → C j) ∧ clo s x2 r := by
  intro n
  induction n with
  | zero => intro q acc _ h; omega
  | succ n ih =>
    intro q acc hq hn h24 hC hinv
    by_cases h : q < 24
    · obtain ⟨r, e, r1, r2, r3, r4, r5⟩ := lsp15 hE hg hp x2 (nI q) BIG 0 acc (by omega) (by unfold BIG; omega) h24 hC
      have e : f_L_spread_L15 BIG x2 acc (nI q) 0 m = some (r, m) := e
      have hinv2 : clo s x2 r ∨ q + 1 ≤ c24 r := by
        by_cases hr : acc = r
        · refine Or.inl (fun k j hk hj a b c => ?_)
          obtain ⟨f, hf, b⟩ := b
          exact r5 (3 * k + f) j (Nat.zero_le _) (by omega) hj (by rw [show (3 * k + f) / 3 = k by omega, hr]; exact a) b c
        · have hc := eq_sub h24 r1 r2 hr
          rcases hinv with hi | hi
          · exfalso
            apply hr
            refine S24_ext h24 r1 (fun j hj => ?_)
            have h1 := r4 (fun j => tb acc j = true) (fun _ _ q => q) hi j hj
            have h2 := r2 j hj
            cases e1 : tb acc j <;> cases e2 : tb r j
            · rfl
            · rw [h1 e2] at e1; cases e1
            · rw [h2 e1] at e2; cases e2
            · rfl
          · exact Or.inr (by omega)
      obtain ⟨z, e2, q1, q2, q3, q4, q5⟩ := ih (q + 1) r (by omega) (by omega) r1 r3 hinv2
      refine ⟨z, ?_, q1, fun j hj a => q2 j hj (r2 j hj a), q3, fun C c1 c2 j hj a => q4 C (fun j hj a => r4 C c1 c2 j hj a) c2 j hj a, q5⟩
      rw [f_L_spread_L5]
      simp (disch := omega) only [ltL, h, if_true]
      rw [e, Option.bind_some, addR]
      exact e2
    · have h4 : q = 24 := by omega
      subst h4
      refine ⟨acc, ?_, h24, fun _ _ q => q, hC, fun C c1 _ => c1, ?_⟩
      · rw [f_L_spread_L5]
        simp (disch := omega) only [ltL, if_false, Nat.lt_irrefl]
      · rcases hinv with hi | hi
        · exact hi
        · exact fun k j _ hj _ _ _ => c24_full hi j hj
theorem e_Lspread {m : St} {s : Nat → Int32} {C0 : Nat → Prop} (hE : En m s) (hg : goodC s C0) (hp : ∀ k, k < 24 → C0 k → s (7 * k) = 1) (x1 x2 : Int32) (h24 : S24 x1) (hC : ∀ j, j < 24 → tb x1 j = true → C0 j) (hx : ∀ j, j < 24 → tb x1 j = true → ¬ x2 = nI j) : ∃ R, f_L_spread x1 x2 m = some (R, m) ∧ (∀ j, j < 24 → tb R j = true → C0 j) ∧ IsCl (mF s) (fun j => tb x1 j = true) (fun j => x2 = nI j) R := by
  obtain ⟨r, e, r1, r2, r3, r4, r5⟩ := lsp5 hE hg hp x2 BIG 0 x1 (by omega) (by unfold BIG; omega) h24 hC (Or.inr (Nat.zero_le _))
  refine ⟨r, ?_, r3, r1, fun j hj a _ => r2 j hj a, r5, fun C c1 c2 => r4 C (fun j hj a => c1 j hj a (hx j hj a)) c2⟩
  unfold f_L_spread
  rw [show f_L_spread_L5 BIG x2 x1 0 m = some (r, m) from e]
  rfl
theorem e_Lrooted_loop {p : Int32} {R : Nat → Int32} {m : St} {s : Nat → Int32} (hE : En m s) (hR : gR p R s 218) (x1 : Int32) : ∀ (n k : Nat) (acc : Int32), k ≤ 4 → 4 - k < n → S24 acc → ∃ r, f_L_rooted_L5 n x1 acc (nI k) m = some (r, m) ∧ S24 r ∧ ∀ j, j < 24 → (tb r j = true ↔ tb acc j = true ∨ ∃ i, k ≤ i ∧ i < 4 ∧ R i = nI j ∧ ¬ x1 = nI j) := by
  intro n
  induction n with
  | zero => intro k acc _ h; omega
  | succ n ih =>
    intro k acc hk hn h24
    by_cases h : k < 4
    · have hv : m.2 7 k = R k := (hE.2.2.2.1 k (by omega)).symm.trans (hR k h).2
      have hstep : f_L_rooted_L5 (n + 1) x1 acc (nI k) m = (if R k < 0 then some (0 : Int32) else if R k = x1 then some 0 else some (1 <<< (R k &&& 31))).bind fun o4 => f_L_rooted_L5 n x1 (acc ||| o4) (nI (k + 1)) m := by
        have h8 : k < 8 := by omega
        rw [f_L_rooted_L5]
        simp (disch := omega) only [ltL, h, if_true, ibN, clN, h8, hv, addR]
      rw [hstep]
      rcases (hR k h).1 with hv2 | ⟨j0, hj0, hv2, _⟩
      · obtain ⟨r, e, r1, r2⟩ := ih (k + 1) acc (by omega) (by omega) h24
        rw [hv2, if_pos (by decide), Option.bind_some, or_0]
        refine ⟨r, e, r1, fun j hj => ?_⟩
        rw [r2 j hj]
        constructor
        · rintro (a | ⟨i, a1, a2, a3⟩)
          · exact Or.inl a
          · exact Or.inr ⟨i, by omega, a2, a3⟩
        · rintro (a | ⟨i, a1, a2, a3, a4⟩)
          · exact Or.inl a
          · by_cases e : i = k
            · subst e; rw [hv2] at a3; exact absurd a3.symm (nI_ne_m1 (by omega))
            · exact Or.inr ⟨i, by omega, a2, a3, a4⟩
      · rw [hv2, if_neg (nI_pos (by omega))]
        by_cases hx : nI j0 = x1
        · obtain ⟨r, e, r1, r2⟩ := ih (k + 1) acc (by omega) (by omega) h24
          rw [if_pos hx, Option.bind_some, or_0]
          refine ⟨r, e, r1, fun j hj => ?_⟩
          rw [r2 j hj]
          constructor
          · rintro (a | ⟨i, a1, a2, a3⟩)
            · exact Or.inl a
            · exact Or.inr ⟨i, by omega, a2, a3⟩
          · rintro (a | ⟨i, a1, a2, a3, a4⟩)
            · exact Or.inl a
            · by_cases e : i = k
              · subst e; rw [hv2] at a3; exact absurd (hx.symm.trans a3) a4
              · exact Or.inr ⟨i, by omega, a2, a3, a4⟩
        · obtain ⟨r, e, r1, r2⟩ := ih (k + 1) (acc ||| bI (nI j0)) (by omega) (by omega) (S24_or h24 (S24_bI _))
          rw [if_neg hx, Option.bind_some, sh_bI hj0]
          refine ⟨r, e, r1, fun j hj => ?_⟩
          rw [r2 j hj, tb_or, tb_bI hj0, Bool.or_eq_true, decide_eq_true_iff]
          constructor
          · rintro ((a | a) | ⟨i, a1, a2, a3⟩)
            · exact Or.inl a
            · subst a; exact Or.inr ⟨k, Nat.le_refl k, h, hv2, fun q => hx q.symm⟩
            · exact Or.inr ⟨i, by omega, a2, a3⟩
          · rintro (a | ⟨i, a1, a2, a3, a4⟩)
            · exact Or.inl (Or.inl a)
            · by_cases e : i = k
              · subst e
                rw [hv2] at a3
                exact Or.inl (Or.inr (nI_inj (by omega) (by omega) a3).symm)
              · exact Or.inr ⟨i, by omega, a2, a3, a4⟩
    · have h4 : k = 4 := by omega
      subst h4
      refine ⟨acc, ?_, h24, fun j hj => ⟨Or.inl, fun q => q.elim id (fun ⟨i, a1, a2, _⟩ => by omega)⟩⟩
      rw [f_L_rooted_L5]
      simp (disch := omega) only [ltL, if_false, Nat.lt_irrefl]
theorem p_one {p : Int32} {s : Nat → Int32} (hP : gP p s) : ∀ k, k < 24 → tb p k = true → s (7 * k) = 1 := fun k hk h => by rw [hP k hk, h]; rfl
theorem e_Lrooted {p : Int32} {F R : Nat → Int32} {m : St} {s : Nat → Int32} (hE : En m s) (hP : gP p s) (hF : gF p F s) (hR : gR p R s 218) (x1 : Int32) : ∃ Q, f_L_rooted x1 m = some (Q, m) ∧ IsCl F (rootS R) (fun j => x1 = nI j) Q ∧ ∀ j, j < 24 → tb Q j = true → tb p j = true := by
  obtain ⟨r, e, r1, r2⟩ := e_Lrooted_loop hE hR x1 BIG 0 0 (by omega) (by unfold BIG; omega) S24_0
  have hr : ∀ j, j < 24 → (tb r j = true ↔ rootS R j ∧ ¬ x1 = nI j) := by
    intro j hj
    rw [r2 j hj, tb_0]
    constructor
    · rintro (a | ⟨i, _, a2, a3, a4⟩)
      · cases a
      · exact ⟨⟨i, a2, a3⟩, a4⟩
    · rintro ⟨⟨i, a2, a3⟩, a4⟩
      exact Or.inr ⟨i, Nat.zero_le _, a2, a3, a4⟩
  obtain ⟨Q, e2, q1, q2⟩ := e_Lspread hE (good_of hF) (p_one hP) r x1 r1 (fun j hj a => root_ok hR hj ((hr j hj).mp a).1) (fun j hj a => ((hr j hj).mp a).2)
  refine ⟨Q, ?_, ?_, q1⟩
  · unfold f_L_rooted
    simp only [show f_L_rooted_L5 BIG x1 0 0 m = some (r, m) from e, e2, Option.bind_some]
  · obtain ⟨c0, c1, c2, c3⟩ := q2
    refine ⟨c0, fun j hj a b => c1 j hj ((hr j hj).mpr ⟨a, b⟩) b, fun k j hk hj a b c => c2 k j hk hj a ((edge_mF hF hk (q1 k hk a)).mpr b) c, fun C d1 d2 j hj a => ?_⟩
    have := c3 (fun j => C j ∧ tb Q j = true) (fun j hj a b => ⟨d1 j hj ((hr j hj).mp a).1 b, c1 j hj a b⟩) (fun k j hk hj a b c => ⟨d2 k j hk hj a.1 ((edge_mF hF hk (q1 k hk a.2)).mp b) c, c2 k j hk hj a.2 b c⟩) j hj a
    exact this.1
theorem lreached_loop {m : St} {s : Nat → Int32} {n0 : Int32} {v : Nat → Int32} {l : List Nat} (hE : En m s) (hl : gL n0 v l s 193) : ∀ (n k : Nat) (acc : Int32), k ≤ l.length → l.length - k < n → S24 acc → ∃ r, f_L_reached_L11 n acc (nI k) m = some (r, m) ∧ S24 r ∧ ∀ j, j < 24 → (tb r j = true ↔ tb acc j = true ∨ ∃ i, ∃ h : i < l.length, k ≤ i ∧ l[i] = j) := by
  obtain ⟨⟨h1, hle, hv⟩, hs0, hs⟩ := hl
  have hg9 : m.2 0 9 = nI l.length := (En_g hE).2.2.2.2.2.2.2.2.2.1.symm.trans (hs0.trans h1)
  intro n
  induction n with
  | zero => intro k acc _ h; omega
  | succ n ih =>
    intro k acc hk hn h24
    by_cases h : k < l.length
    · have hk24 := (hv k h).2
      obtain ⟨r, e, r1, hr⟩ := ih (k + 1) (acc ||| bI (nI l[k])) (by omega) (by omega) (S24_or h24 (S24_bI _))
      refine ⟨r, ?_, r1, fun j hj => ?_⟩
      · rw [f_L_reached_L11]
        have hlt : nI k < nI l.length := (nI_ltI (by omega) (by omega)).mpr h
        have h24' : k < 24 := by omega
        have h4 : m.2 5 k = nI l[k] := (hE.2.2.1 k (by omega)).1.symm.trans ((hs k h).trans (hv k h).1)
        simp (disch := omega) only [cl_9, hg9, hlt, if_true, ibN, h24', clN, h4, sh_bI, addR]
        rw [if_pos i11_9]
        exact e
      · rw [hr j hj, tb_or, tb_bI hk24, Bool.or_eq_true, decide_eq_true_iff]
        constructor
        · rintro ((a | a) | ⟨i, a1, a2, a3⟩)
          · exact Or.inl a
          · exact Or.inr ⟨k, h, Nat.le_refl k, a.symm⟩
          · exact Or.inr ⟨i, a1, by omega, a3⟩
        · rintro (a | ⟨i, a1, a2, a3⟩)
          · exact Or.inl (Or.inl a)
          · by_cases e : i = k
            · subst e; exact Or.inl (Or.inr a3.symm)
            · exact Or.inr ⟨i, a1, by omega, a3⟩
    · have h4 : k = l.length := by omega
      refine ⟨acc, ?_, h24, fun j hj => ⟨Or.inl, fun q => q.elim id (fun ⟨i, a1, a2, _⟩ => by omega)⟩⟩
      rw [f_L_reached_L11, if_pos i11_9]
      have hlt : ¬ nI k < nI l.length := fun q => by have := (nI_ltI (by omega) (by omega)).mp q; omega
      simp only [cl_9, hg9, hlt, if_false]
/-- what the law finds reached is what the model finds -/
theorem T_rooted {w m M : St} {B : Nat} {ex rw li : List Nat} (h : SimB w (M.2 0) B ex rw li) (hE : En m (M.2 0)) : ∃ Q, f_L_rooted (-1) m = some (Q, m) ∧ f_X7_rooted (-1) M = some (Q, M) ∧ S24 Q ∧ (∀ j, j < 24 → tb Q j = true → tb (w.1 13) j = true) := by
  obtain ⟨hA, hP, hF, hW, hCo, hE2, hRw, hG, hLi, hO, hR, hH, hN, hI⟩ := h
  obtain ⟨Q, e1, c1, d1⟩ := e_Lrooted hE hP hF hR (-1)
  obtain ⟨Q2, e2, c2, d2⟩ := e_rooted hF hR (-1)
  have := IsCl_uniq c1 c2
  subst this
  exact ⟨Q, e1, e2, c1.1, d1⟩
theorem T_reached {w m M : St} {B : Nat} {ex rw li : List Nat} (h : SimB w (M.2 0) B ex rw li) (hE : En m (M.2 0)) : ∃ Q, f_L_reached m = some (Q, m) ∧ f_X7_reached M = some (Q, M) ∧ S24 Q ∧ (∀ j, j < 24 → tb Q j = true → tb (w.1 13) j = true) := by
  obtain ⟨hA, hP, hF, hW, hCo, hE2, hRw, hG, hLi, hO, hR, hH, hN, hI⟩ := h
  obtain ⟨Q2, e3, c4, d4⟩ := e_reached hF hR hLi hO
  obtain ⟨Q0, e, hQ0, q0⟩ := e_Lrooted hE hP hF hR (-1)
  have hQ0 := IsCl_congr (fun _ _ => Iff.rfl) m1_nI (fun _ _ _ _ _ => Iff.rfl) (fun _ _ _ _ _ h => h) hQ0
  obtain ⟨r, e1, r1, r2⟩ := lreached_loop hE hLi BIG 0 Q0 (by omega) (by have := hLi.1.2.1; unfold BIG; omega) hQ0.1
  have hr : ∀ j, j < 24 → (tb r j = true ↔ tb Q0 j = true ∨ j ∈ li) := by
    intro j hj
    rw [r2 j hj]
    constructor
    · rintro (a | ⟨i, a1, _, a3⟩)
      · exact Or.inl a
      · exact Or.inr (a3 ▸ List.getElem_mem a1)
    · rintro (a | a)
      · exact Or.inl a
      · obtain ⟨i, hi, he⟩ := List.getElem_of_mem a
        exact Or.inr ⟨i, hi, Nat.zero_le _, he⟩
  obtain ⟨Q, e2, q1, q2⟩ := e_Lspread hE (good_of hF) (p_one hP) r (-1) r1 (fun j hj a => ((hr j hj).mp a).elim (q0 j hj) (hO.2 j)) (fun j hj _ h => nI_ne_m1 (by omega) h.symm)
  have hQ : IsCl (w.2 1) (fun j => rootS (w.2 2) j ∨ j ∈ li) noX Q := by
    obtain ⟨c0, c1, c2, c3⟩ := q2
    have nox : ∀ j, j < 24 → ¬ (-1 : Int32) = nI j := fun j hj h => nI_ne_m1 (by omega) h.symm
    refine ⟨c0, fun j hj a _ => c1 j hj ((hr j hj).mpr (a.elim (fun a => Or.inl (hQ0.2.1 j hj a id)) Or.inr)) (nox j hj), fun k j hk hj a b _ => c2 k j hk hj a ((edge_mF hF hk (q1 k hk a)).mpr b) (nox j hj), fun C d1 d2 j hj a => ?_⟩
    have := c3 (fun j => C j ∧ tb Q j = true) (fun j hj a b => ⟨?_, c1 j hj a b⟩) (fun k j hk hj a b c => ⟨d2 k j hk hj a.1 ((edge_mF hF hk (q1 k hk a.2)).mp b) id, c2 k j hk hj a.2 b c⟩) j hj a
    · exact this.1
    · rcases (hr j hj).mp a with a | a
      · exact hQ0.2.2.2 C (fun j hj a _ => d1 j hj (Or.inl a) id) (fun k j hk hj a b _ => d2 k j hk hj a b id) j hj a
      · exact d1 j hj (Or.inr a) id
  have := IsCl_uniq hQ c4
  subst this
  refine ⟨Q, ?_, e3, hQ.1, q1⟩
  unfold f_L_reached
  simp only [e, show f_L_reached_L11 BIG Q0 0 m = some (r, m) from e1, e2, Option.bind_some]
