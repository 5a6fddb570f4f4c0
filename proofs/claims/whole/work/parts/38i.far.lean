/-! PURE: hangs, far -/
theorem hangs_sim {w m : St} {B : Nat} {ex rw li : List Nat} (h : SimB w (m.2 0) B ex rw li) {k : Nat} (hk : k < 24) (hp : tb (w.1 13) k = true) : ∃ Q r R, f_X1_reachedByRoots w = some (Q, w) ∧ f_X1_setOfRoots w = some (r, w) ∧ f_X1_reachedFrom r (bI (nI k)) w = some (R, w) ∧ f_X7_hangs (nI k) m = some (if Q &&& bI (nI k) = 0 then -12 else Q &&& (R ^^^ (-1)), m) := by
  obtain ⟨Q, q1, q2, _⟩ := roots_both h
  obtain ⟨r, e1, r24, r1⟩ := e_setOfRoots w
  obtain ⟨R, e2, c1⟩ := e_reachedFrom r (bI (nI k)) r24 w
  obtain ⟨R', e3, c2, _⟩ := e_rooted h.2.2.1 h.2.2.2.2.2.2.2.2.2.2.1 (nI k)
  have c1' : IsCl (w.2 1) (rootS (w.2 2)) (fun j => nI k = nI j) R := by
    refine IsCl_congr (fun j hj => ?_) (fun j hj => ?_) (fun _ _ _ _ _ => Iff.rfl) (fun _ _ _ _ _ h => h) c1
    · exact r1 j hj
    · rw [tb_bI hk, decide_eq_true_iff]
      exact ⟨fun e => by rw [e], fun e => (nI_inj (by omega) (by omega) e).symm⟩
  have := IsCl_uniq c1' c2
  subst this
  refine ⟨Q, r, R, q1, e1, e2, ?_⟩
  unfold f_X7_hangs
  rw [e_isObject h.2.1, hasI_nI hk, hp]
  simp only [if_true, Option.bind_some, oz, if_false, q2, e3]
  cases z : tb Q k
  · rw [if_pos ((shr_0 hk).mpr z), if_pos ((and_bI hk).mpr z)]
  · rw [if_neg (fun q => by rw [(shr_0 hk).mp q] at z; cases z), if_neg (fun q => by rw [(and_bI hk).mp q] at z; cases z)]
theorem far15 {p : Int32} {R : Nat → Int32} {m : St} (hR : gR p R (m.2 0) 218) (x1 : Int32) : ∀ (n k : Nat) (acc : Int32), k ≤ 4 → 4 - k < n → S24 acc → ∃ r, f_X7_far_L15 n x1 acc (nI k) m = some (r, m) ∧ S24 r ∧ ∀ j, j < 24 → (tb r j = true ↔ tb acc j = true ∨ ∃ i, k ≤ i ∧ i < 4 ∧ R i = nI j) := by
  intro n
  induction n with
  | zero => intro k acc _ h; omega
  | succ n ih =>
    intro k acc hk hn h24
    by_cases h : k < 4
    · have hv := (hR k h).2
      have h235 : 218 + k < 235 := by omega
      rcases (hR k h).1 with hv2 | ⟨j0, hj0, hv2, _⟩
      · obtain ⟨r, e, r1, r2⟩ := ih (k + 1) acc (by omega) (by omega) h24
        refine ⟨r, ?_, r1, fun j hj => ?_⟩
        · rw [f_X7_far_L15]
          simp (disch := omega) only [ltL, h, if_true, addL, ibN, clN, h235, hv, hv2, or_0, addR]
          rw [if_pos (by decide)]
          exact e
        · rw [r2 j hj]
          constructor
          · rintro (a | ⟨i, a1, a2, a3⟩)
            · exact Or.inl a
            · exact Or.inr ⟨i, by omega, a2, a3⟩
          · rintro (a | ⟨i, a1, a2, a3⟩)
            · exact Or.inl a
            · by_cases e : i = k
              · subst e; rw [hv2] at a3; exact absurd a3.symm (nI_ne_m1 (by omega))
              · exact Or.inr ⟨i, by omega, a2, a3⟩
      · obtain ⟨r, e, r1, r2⟩ := ih (k + 1) (acc ||| bI (nI j0)) (by omega) (by omega) (S24_or h24 (S24_bI _))
        refine ⟨r, ?_, r1, fun j hj => ?_⟩
        · have hn0 : ¬ nI j0 < 0 := nI_pos (by omega)
          rw [f_X7_far_L15]
          simp (disch := omega) only [ltL, h, if_true, addL, ibN, clN, h235, hv, hv2, hn0, if_false, sh_bI hj0, addR]
          exact e
        · rw [r2 j hj, tb_add hj0]
          constructor
          · rintro ((a | a) | ⟨i, a1, a2, a3⟩)
            · exact Or.inl a
            · subst a; exact Or.inr ⟨k, Nat.le_refl k, h, hv2⟩
            · exact Or.inr ⟨i, by omega, a2, a3⟩
          · rintro (a | ⟨i, a1, a2, a3⟩)
            · exact Or.inl (Or.inl a)
            · by_cases e : i = k
              · subst e
                rw [hv2] at a3
                exact Or.inl (Or.inr (nI_inj (by omega) (by omega) a3).symm)
              · exact Or.inr ⟨i, by omega, a2, a3⟩
    · have h4 : k = 4 := by omega
      subst h4
      refine ⟨acc, ?_, h24, fun j hj => ⟨Or.inl, fun q => q.elim id (fun ⟨i, a1, a2, _⟩ => by omega)⟩⟩
      rw [f_X7_far_L15]
      simp (disch := omega) only [ltL, if_false, Nat.lt_irrefl]
theorem far92 {p : Int32} {F : Nat → Int32} {m : St} (hF : gF p F (m.2 0)) (x1 S x3 : Int32) {y : Nat} (hy : y < 24) (hS : tb S y = true) (hp : tb p y = true) : ∀ (n f : Nat) (acc : Int32), f ≤ 3 → 3 - f < n → S24 acc → ∃ r, f_X7_far_L92 n x1 S x3 acc (nI y) (nI f) m = some (r, m) ∧ S24 r ∧ ∀ j, j < 24 → (tb r j = true ↔ tb acc j = true ∨ ∃ i, f ≤ i ∧ i < 3 ∧ F (3 * y + i) = nI j) := by
  intro n
  induction n with
  | zero => intro k acc _ h; omega
  | succ n ih =>
    intro k acc hk hn h24
    by_cases h : k < 3
    · have hS1 : (S >>> (nI y &&& 31)) &&& 1 = 1 := (shr_1 hy).mpr hS
      have hof : f_X7_of (nI y) (nI (1 + k)) m = some (F (3 * y + k), m) := by rw [e_of (by omega), (hF y k hy h).2.1 hp]
      rcases (hF y k hy h).1 with hv2 | ⟨j0, hj0, hv2, _⟩
      · obtain ⟨r, e, r1, r2⟩ := ih (k + 1) acc (by omega) (by omega) h24
        refine ⟨r, ?_, r1, fun j hj => ?_⟩
        · rw [f_X7_far_L92]
          simp (disch := omega) only [ltL, h, if_true, hS1, addL, hof, Option.bind_some, hv2, or_0, addR]
          rw [if_pos (by decide)]
          exact e
        · rw [r2 j hj]
          constructor
          · rintro (a | ⟨i, a1, a2, a3⟩)
            · exact Or.inl a
            · exact Or.inr ⟨i, by omega, a2, a3⟩
          · rintro (a | ⟨i, a1, a2, a3⟩)
            · exact Or.inl a
            · by_cases e : i = k
              · subst e; rw [hv2] at a3; exact absurd a3.symm (nI_ne_m1 (by omega))
              · exact Or.inr ⟨i, by omega, a2, a3⟩
      · obtain ⟨r, e, r1, r2⟩ := ih (k + 1) (acc ||| bI (nI j0)) (by omega) (by omega) (S24_or h24 (S24_bI _))
        refine ⟨r, ?_, r1, fun j hj => ?_⟩
        · have hn0 : ¬ nI j0 < 0 := nI_pos (by omega)
          rw [f_X7_far_L92]
          simp (disch := omega) only [ltL, h, if_true, hS1, addL, hof, Option.bind_some, hv2, hn0, if_false, sh_bI hj0, addR]
          exact e
        · rw [r2 j hj, tb_add hj0]
          constructor
          · rintro ((a | a) | ⟨i, a1, a2, a3⟩)
            · exact Or.inl a
            · subst a; exact Or.inr ⟨k, Nat.le_refl k, h, hv2⟩
            · exact Or.inr ⟨i, by omega, a2, a3⟩
          · rintro (a | ⟨i, a1, a2, a3⟩)
            · exact Or.inl (Or.inl a)
            · by_cases e : i = k
              · subst e
                rw [hv2] at a3
                exact Or.inl (Or.inr (nI_inj (by omega) (by omega) a3).symm)
              · exact Or.inr ⟨i, by omega, a2, a3⟩
    · have h4 : k = 3 := by omega
      subst h4
      refine ⟨acc, ?_, h24, fun j hj => ⟨Or.inl, fun q => q.elim id (fun ⟨i, a1, a2, _⟩ => by omega)⟩⟩
      rw [f_X7_far_L92]
      simp (disch := omega) only [ltL, if_false, Nat.lt_irrefl]
theorem far82 {p : Int32} {F : Nat → Int32} {m : St} (hF : gF p F (m.2 0)) (x1 S x3 : Int32) (hSp : ∀ y, y < 24 → tb S y = true → tb p y = true) : ∀ (n y : Nat) (acc : Int32), y ≤ 24 → 24 - y < n → S24 acc → ∃ r, f_X7_far_L82 n x1 S x3 acc (nI y) m = some (r, m) ∧ S24 r ∧ ∀ j, j < 24 → (tb r j = true ↔ tb acc j = true ∨ ∃ i, y ≤ i ∧ i < 24 ∧ tb S i = true ∧ edge F i j) := by
  intro n
  induction n with
  | zero => intro k acc _ h; omega
  | succ n ih =>
    intro y acc hy hn h24
    by_cases h : y < 24
    · cases hS : tb S y
      · obtain ⟨r, e, r1, r2⟩ := ih (y + 1) acc (by omega) (by omega) h24
        refine ⟨r, ?_, r1, fun j hj => ?_⟩
        · have hS1 : ¬ (S >>> (nI y &&& 31)) &&& 1 = 1 := fun q => by rw [(shr_1 h).mp q] at hS; cases hS
          obtain ⟨b, hb⟩ : ∃ b, BIG = b + 1 := ⟨99999, rfl⟩
          have e0 : f_X7_far_L92 BIG x1 S x3 acc (nI y) 0 m = some (acc, m) := by
            rw [hb, f_X7_far_L92, if_pos (by decide), if_neg hS1]
          rw [f_X7_far_L82]
          simp (disch := omega) only [ltL, h, if_true, e0, Option.bind_some, addR]
          exact e
        · rw [r2 j hj]
          constructor
          · rintro (a | ⟨i, a1, a2⟩)
            · exact Or.inl a
            · exact Or.inr ⟨i, by omega, a2⟩
          · rintro (a | ⟨i, a1, a2, a3, a4⟩)
            · exact Or.inl a
            · by_cases e : i = y
              · subst e; rw [hS] at a3; cases a3
              · exact Or.inr ⟨i, by omega, a2, a3, a4⟩
      · obtain ⟨r0, e0, q1, q2⟩ := far92 hF x1 S x3 h hS (hSp y h hS) BIG 0 acc (by omega) (by unfold BIG; omega) h24
        obtain ⟨r, e, r1, r2⟩ := ih (y + 1) r0 (by omega) (by omega) q1
        refine ⟨r, ?_, r1, fun j hj => ?_⟩
        · rw [f_X7_far_L82]
          simp (disch := omega) only [ltL, h, if_true, show f_X7_far_L92 BIG x1 S x3 acc (nI y) 0 m = some (r0, m) from e0, Option.bind_some, addR]
          exact e
        · rw [r2 j hj, q2 j hj]
          constructor
          · rintro ((a | ⟨i, _, a2, a3⟩) | ⟨i, a1, a2⟩)
            · exact Or.inl a
            · exact Or.inr ⟨y, Nat.le_refl y, h, hS, i, a2, a3⟩
            · exact Or.inr ⟨i, by omega, a2⟩
          · rintro (a | ⟨i, a1, a2, a3, a4⟩)
            · exact Or.inl (Or.inl a)
            · by_cases e : i = y
              · subst e
                obtain ⟨f, hf, ef⟩ := a4
                exact Or.inl (Or.inr ⟨f, Nat.zero_le f, hf, ef⟩)
              · exact Or.inr ⟨i, by omega, a2, a3, a4⟩
    · have h4 : y = 24 := by omega
      subst h4
      refine ⟨acc, ?_, h24, fun j hj => ⟨Or.inl, fun q => q.elim id (fun ⟨i, a1, a2, _⟩ => by omega)⟩⟩
      rw [f_X7_far_L82, if_neg (by decide)]
theorem dist_still {w : St} {S b : Int32} {k : Nat} (hk : k < 24) (hb : f_X1_behind S w = some (b, w)) (hst : S ||| b = S) (hn : tb S k = false) : ∀ (n i : Nat), i ≤ 24 → 24 - i < n → f_X1_distanceTo_L7 n (nI k) S (nI i) w = some (-1, w) := by
  intro n
  induction n with
  | zero => intro i _ h; omega
  | succ n ih =>
    intro i hi hn2
    by_cases h : i < 24
    · rw [f_X1_distanceTo_L7, if_pos ((ltL (by omega) (by omega)).mpr h), e_bit]
      simp only [Option.bind_some]
      rw [if_pos ((and_bI hk).mpr hn), hb]
      simp only [Option.bind_some, hst, nI_eq_of]
      exact ih (i + 1) (by omega) (by omega)
    · have h4 : i = 24 := by omega
      subst h4
      rw [f_X1_distanceTo_L7, if_neg (by decide)]
theorem c24_pos {S : Int32} (h24 : S24 S) (h : ¬ S = 0) : 1 ≤ c24 S := by
  rcases Nat.eq_zero_or_pos (c24 S) with q | q
  · exfalso
    apply h
    refine S24_ext h24 S24_0 (fun k hk => ?_)
    rw [tb_0]
    cases z : tb S k
    · rfl
    · have := cnt_pos (f := tb S) (n := 24) hk z
      unfold c24 at q
      omega
  · exact q
theorem far_loop {w m : St} {B : Nat} {ex rw li : List Nat} (h : SimB w (m.2 0) B ex rw li) {k : Nat} (hk : k < 24) : ∀ (n i N N' : Nat) (S : Int32), S24 S → (∀ y, y < 24 → tb S y = true → tb (w.1 13) y = true) → (i + 1 ≤ c24 S ∨ i = 0) → 24 - c24 S < n → 24 - i < N → n + 1 < N' →
    ∃ S' x, f_X1_distanceTo_L7 N (nI k) S (nI i) w = some (if tb S' k then x else -1, w) ∧ f_X7_far_L63 N' (nI k) S (nI i) 1 m = some (S', x, m) ∧ ∃ e, e < 100 ∧ x = nI e := by
  have hF := h.2.2.1
  intro n
  induction n with
  | zero => intro i N N' S _ _ _ q; omega
  | succ n ih =>
    intro i N N' S hS hSp hi hn hN hN'
    have hc := c24_le S
    have h24 : i < 24 := by omega
    obtain ⟨N0, rfl⟩ : ∃ q, N = q + 1 := ⟨N - 1, by omega⟩
    obtain ⟨N1, rfl⟩ : ∃ q, N' = q + 1 := ⟨N' - 1, by omega⟩
    have hlt : nI i < 24 := (ltL (by omega) (by omega)).mpr h24
    cases hq : tb S k
    · obtain ⟨b, eb, b24, hb⟩ := e_behind S w
      obtain ⟨r, er, r24, hr⟩ := far82 hF (nI k) S (nI i) hSp BIG 0 S (by omega) (by unfold BIG; omega) hS
      have hrb : r = S ||| b := by
        refine S24_ext r24 (S24_or hS b24) (fun j hj => bool_eq_iff ?_)
        rw [hr j hj, tb_or, Bool.or_eq_true, hb j hj]
        constructor
        · rintro (a | ⟨y, _, a2, a3, a4⟩)
          · exact Or.inl a
          · exact Or.inr ⟨y, a2, a3, a4⟩
        · rintro (a | ⟨y, a2, a3, a4⟩)
          · exact Or.inl a
          · exact Or.inr ⟨y, Nat.zero_le y, a2, a3, a4⟩
      have s0 : (S >>> (nI k &&& 31)) &&& 1 = 0 := (shr_0 hk).mpr hq
      have cstep : f_X1_distanceTo_L7 (N0 + 1) (nI k) S (nI i) w = f_X1_distanceTo_L7 N0 (nI k) (S ||| b) (nI (i + 1)) w := by
        rw [f_X1_distanceTo_L7, if_pos hlt, e_bit]
        simp only [Option.bind_some]
        rw [if_pos ((and_bI hk).mpr hq), eb]
        simp only [Option.bind_some, nI_eq_of]
      have mstep : f_X7_far_L63 (N1 + 1) (nI k) S (nI i) 1 m = if r = S then f_X7_far_L63 N1 (nI k) r (nI (i + 1)) 0 m else f_X7_far_L63 N1 (nI k) r (nI (i + 1)) 1 m := by
        rw [f_X7_far_L63, if_neg (show ¬ (1 : Int32) = 0 by decide), if_pos s0, show f_X7_far_L82 BIG (nI k) S (nI i) S 0 m = some (r, m) from er]
        simp only [Option.bind_some, nI_eq_of]
      by_cases he : r = S
      · obtain ⟨N2, rfl⟩ : ∃ q, N1 = q + 1 := ⟨N1 - 1, by omega⟩
        refine ⟨S, nI (i + 1), ?_, ?_, i + 1, by omega, rfl⟩
        · rw [cstep, hq, ← hrb, he]
          exact dist_still hk eb (hrb.symm.trans he) hq N0 (i + 1) (by omega) (by omega)
        · rw [mstep, if_pos he, f_X7_far_L63, if_pos rfl, he]
      · have hlt2 : c24 S < c24 r := eq_sub hS r24 (fun j hj q => (hr j hj).mpr (Or.inl q)) (fun q => he q.symm)
        have hi2 : i + 1 + 1 ≤ c24 r ∨ i + 1 = 0 := by
          rcases hi with q | q
          · omega
          · by_cases z : S = 0
            · exfalso
              apply he
              refine S24_ext r24 hS (fun j hj => bool_eq_iff ?_)
              rw [hr j hj]
              constructor
              · rintro (a | ⟨y, _, _, a3, _⟩)
                · exact a
                · rw [z, tb_0] at a3; cases a3
              · exact Or.inl
            · have := c24_pos hS z
              omega
        have hrp : ∀ y, y < 24 → tb r y = true → tb (w.1 13) y = true := by
          intro y hy q
          rcases (hr y hy).mp q with a | ⟨z, _, a2, a3, f, hf, a4⟩
          · exact hSp y hy a
          · rcases (hF z f a2 hf).1 with q | ⟨j, hj, q, hp⟩
            · rw [q] at a4; exact absurd a4.symm (nI_ne_m1 (by omega))
            · rw [q] at a4
              rw [← nI_inj (by omega) (by omega) a4]; exact hp
        have hc2 := c24_le r
        obtain ⟨S', x, e1, e2, e3⟩ := ih (i + 1) N0 N1 r r24 hrp hi2 (by omega) (by omega) (by omega)
        refine ⟨S', x, ?_, ?_, e3⟩
        · rw [cstep, ← hrb]; exact e1
        · rw [mstep, if_neg he]; exact e2
    · refine ⟨S, nI i, ?_, ?_, i, by omega, rfl⟩
      · rw [f_X1_distanceTo_L7, if_pos hlt, e_bit]
        simp only [Option.bind_some]
        rw [if_neg (fun q => by rw [(and_bI hk).mp q] at hq; cases hq), hq]
        rfl
      · rw [f_X7_far_L63, if_neg (show ¬ (1 : Int32) = 0 by decide), if_neg (fun q => by rw [(shr_0 hk).mp q] at hq; cases hq)]
theorem far_sim {w m : St} {B : Nat} {ex rw li : List Nat} (h : SimB w (m.2 0) B ex rw li) {k : Nat} (hk : k < 24) (hp : tb (w.1 13) k = true) : ∃ v, f_X1_distanceTo (nI k) w = some (v, w) ∧ f_X7_far (nI k) m = some (if v = -1 then -14 else v, m) := by
  obtain ⟨r, e1, r24, r1⟩ := e_setOfRoots w
  obtain ⟨r', e2, q24, q1⟩ := far15 h.2.2.2.2.2.2.2.2.2.2.1 (nI k) BIG 0 0 (by omega) (by unfold BIG; omega) S24_0
  have hrr : r' = r := by
    refine S24_ext q24 r24 (fun j hj => bool_eq_iff ?_)
    rw [q1 j hj, r1 j hj, tb_0]
    constructor
    · rintro (a | ⟨i, _, a⟩)
      · cases a
      · exact ⟨i, a⟩
    · rintro ⟨i, a⟩
      exact Or.inr ⟨i, Nat.zero_le i, a⟩
  subst hrr
  have hrp : ∀ y, y < 24 → tb r' y = true → tb (w.1 13) y = true := fun y hy q => root_ok h.2.2.2.2.2.2.2.2.2.2.1 hy ((r1 y hy).mp q)
  obtain ⟨S', x, a1, a2, e, he, hx⟩ := far_loop h hk 30 0 BIG BIG r' r24 hrp (Or.inr rfl) (by omega) (Nat.le_of_ble_eq_true rfl) (Nat.le_of_ble_eq_true rfl)
  refine ⟨if tb S' k then x else -1, ?_, ?_⟩
  · unfold f_X1_distanceTo
    have hz : (0 : Int32) = nI 0 := rfl
    rw [e1, Option.bind_some, hz]
    exact a1
  · unfold f_X7_far
    rw [e_isObject h.2.1, hasI_nI hk, hp]
    simp only [if_true, Option.bind_some, oz, if_false]
    rw [show f_X7_far_L15 BIG (nI k) 0 0 m = some (r', m) from e2]
    simp only [Option.bind_some]
    rw [show f_X7_far_L63 BIG (nI k) r' 0 1 m = some (S', x, m) from a2]
    simp only [Option.bind_some]
    cases z : tb S' k
    · rw [if_neg (fun q => by rw [(shr_1 hk).mp q] at z; cases z)]
      rfl
    · rw [if_pos ((shr_1 hk).mpr z), hx]
      simp only [if_true]
      rw [if_neg (nI_ne_m1 (by omega))]
