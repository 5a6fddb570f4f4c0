/-! PURE: sweeping, in the law -/
theorem upd_comm {g : Nat → Int32} {a b : Nat} (h : a ≠ b) (x y : Int32) : upd (upd g a x) b y = upd (upd g b y) a x := by
  funext i
  unfold upd
  by_cases e1 : i = b
  · subst e1
    rw [if_pos rfl, if_neg (fun q => h q.symm), if_pos rfl]
  · rw [if_neg e1]
    by_cases e2 : i = a
    · rw [if_pos e2, if_pos e2]
    · rw [if_neg e2, if_neg e2, if_neg e1]
theorem upd_upd (g : Nat → Int32) (a : Nat) (x y : Int32) : upd (upd g a x) a y = upd g a y := by
  funext i
  unfold upd
  by_cases e1 : i = a
  · rw [if_pos e1, if_pos e1]
  · rw [if_neg e1, if_neg e1, if_neg e1]
theorem nIm_dec : ∀ a, a < 25 → ∀ k, k < 24 → (nI a - 1 = nI k ↔ a = k + 1) := by decide +kernel
theorem pk_inj {a b : Nat → Nat} (ha : pkv a) (hb : pkv b) (h : pk a = pk b) : ∀ j, j < 3 → a j = b j := fun j hj => by
  have h1 := pk_at ha hj
  rw [h, pk_at hb hj] at h1
  exact (nI_inj (by have := hb j hj; omega) (by have := ha j hj; omega) h1).symm
theorem ls0 : ∀ (n f : Nat) (m : St), f ≤ 24 → 24 - f < n → m.2 0 1 = nI f → ∃ k, f ≤ k ∧ k ≤ 24 ∧ f_L_sweep_L0 n m = some (sG m 0 (upd (m.2 0) 1 (nI k))) ∧ (∀ j, f ≤ j → j < k → m.2 2 j < 0) ∧ (k < 24 → ¬ m.2 2 k < 0) := by
  intro n
  induction n with
  | zero => intro f m _ h; omega
  | succ n ih =>
    intro f m hf hn h1
    by_cases h : f < 24
    · have cf : (nI f).toNatClampNeg = f := clN (by omega)
      by_cases hc : m.2 2 f < 0
      · obtain ⟨k, k1, k2, e, k3, k4⟩ := ih (f + 1) (sG m 0 (upd (m.2 0) 1 (nI (f + 1)))) (by omega) (by omega) (by rw [sG_2]; exact upd_eq _ _ _)
        refine ⟨k, by omega, k2, ?_, fun j j1 j2 => ?_, k4⟩
        · rw [f_L_sweep_L0]
          simp only [cl_1, h1, cf]
          rw [if_pos i11_1, if_pos ((ltL (by omega) (by omega)).mpr h), if_pos i11_1, if_pos (ib24 h), if_pos hc, if_pos i11_1, if_pos i11_1]
          simp only [sA, cl_1, addR]
          rw [e, sG_sG, sG_2, upd_upd]
        · by_cases ej : j = f
          · subst ej; exact hc
          · exact k3 j (by omega) j2
      · refine ⟨f, Nat.le_refl f, hf, ?_, fun j j1 j2 => by omega, fun _ => hc⟩
        rw [← h1, upd_self, sG_self, f_L_sweep_L0]
        simp only [cl_1, h1, cf]
        rw [if_pos i11_1, if_pos ((ltL (by omega) (by omega)).mpr h), if_pos i11_1, if_pos (ib24 h), if_neg hc]
    · have h4 : f = 24 := by omega
      subst h4
      refine ⟨24, Nat.le_refl _, Nat.le_refl _, ?_, fun j j1 j2 => by omega, fun q => by omega⟩
      rw [← h1, upd_self, sG_self, f_L_sweep_L0]
      simp only [cl_1, h1]
      rw [if_pos i11_1, if_neg (by decide)]
def vF (f : Nat → Int32) : Prop := ∀ y, y < 24 → ∃ a, pkv a ∧ f y = pk a
theorem sp90 {k : Nat} (hk : k < 24) : ∀ (n i : Nat) (m : St), i ≤ 72 → 72 - i < n → vF (m.2 1) → ∃ F', f_L_sweep_L90 n (nI k) (nI i) m = some (sG m 1 F') ∧ ∀ y, y < 24 → ∀ a, pkv a → m.2 1 y = pk a → ∃ a', pkv a' ∧ F' y = pk a' ∧ ∀ j, j < 3 → a' j = if i ≤ 3 * y + j ∧ a j = k + 1 then 0 else a j := by
  intro n
  induction n with
  | zero => intro i m _ h; omega
  | succ n ih =>
    intro i m hi hn hv
    by_cases h : i < 72
    · obtain ⟨a0, ha0, h0⟩ := hv (i / 3) (by omega)
      have hj3 : i % 3 < 3 := Nat.mod_lt _ (by omega)
      have hb24 : a0 (i % 3) ≤ 24 := ha0 _ hj3
      have hb : (if a0 (i % 3) = k + 1 then 0 else a0 (i % 3)) ≤ 24 := by split <;> omega
      have ha1 := updN_v ha0 (j := i % 3) hb
      have hm1 : vF (upd (m.2 1) (i / 3) (pk (updN a0 (i % 3) (if a0 (i % 3) = k + 1 then 0 else a0 (i % 3))))) := by
        intro y hy
        by_cases e : y = i / 3
        · subst e; exact ⟨_, ha1, upd_eq _ _ _⟩
        · rw [upd_ne e]; exact hv y hy
      obtain ⟨F', e, hF⟩ := ih (i + 1) (sG m 1 (upd (m.2 1) (i / 3) (pk (updN a0 (i % 3) (if a0 (i % 3) = k + 1 then 0 else a0 (i % 3)))))) (by omega) (by omega) (by rw [sG_2]; exact hm1)
      rw [sG_sG] at e
      rw [sG_2] at hF
      refine ⟨F', ?_, fun y hy a ha hya => ?_⟩
      · have eb : (if nI (a0 (i % 3)) - 1 = nI k then some ((-1 : Int32), m) else (f_L_at (nI i) m).bind fun o31 => some (o31.1, o31.2)) = some (nI (if a0 (i % 3) = k + 1 then 0 else a0 (i % 3)) - 1, m) := by
          have d := nIm_dec (a0 (i % 3)) (by omega) k hk
          by_cases q : a0 (i % 3) = k + 1
          · rw [if_pos (d.mpr q), if_pos q]; rfl
          · rw [if_neg (fun z => q (d.mp z)), if_neg q, e_Lat h ha0 h0]; rfl
        rw [f_L_sweep_L90, if_pos ((ltL (by omega) (by omega)).mpr h), e_Lat h ha0 h0, Option.bind_some]
        dsimp only
        rw [eb, Option.bind_some]
        dsimp only
        rw [e_Lput h ha0 h0 hb, Option.bind_some, addR]
        exact e
      · by_cases ey : y = i / 3
        · subst ey
          obtain ⟨a', h1, h2, h3⟩ := hF _ hy _ ha1 (upd_eq _ _ _)
          have hin := pk_inj ha ha0 (hya.symm.trans h0)
          refine ⟨a', h1, h2, fun j hj => ?_⟩
          rw [h3 j hj, hin j hj]
          unfold updN
          by_cases ej : j = i % 3
          · rw [if_pos ej, if_neg (fun q => by omega), ej]
            by_cases z : a0 (i % 3) = k + 1
            · rw [if_pos z, if_pos ⟨by omega, z⟩]
            · rw [if_neg z, if_neg (fun q => z q.2)]
          · rw [if_neg ej]
            by_cases z : i + 1 ≤ 3 * (i / 3) + j ∧ a0 j = k + 1
            · rw [if_pos z, if_pos ⟨by omega, z.2⟩]
            · rw [if_neg z, if_neg (fun q => z ⟨by omega, q.2⟩)]
        · obtain ⟨a', h1, h2, h3⟩ := hF y hy a ha (by rw [upd_ne ey]; exact hya)
          refine ⟨a', h1, h2, fun j hj => ?_⟩
          rw [h3 j hj]
          by_cases z : i + 1 ≤ 3 * y + j ∧ a j = k + 1
          · rw [if_pos z, if_pos ⟨by omega, z.2⟩]
          · rw [if_neg z, if_neg (fun q => z ⟨by omega, q.2⟩)]
    · have h4 : i = 72 := by omega
      subst h4
      refine ⟨m.2 1, ?_, fun y hy a ha hya => ⟨a, ha, hya, fun j hj => (if_neg (fun q => by omega)).symm⟩⟩
      rw [f_L_sweep_L90, if_neg (by decide), sG_self]
theorem sp133 {k : Nat} : ∀ (n j : Nat) (m : St), j ≤ 8 → 8 - j < n → ∃ t', f_L_sweep_L133 n (nI k) (nI j) m = some (sG m 7 t') ∧ ∀ i, t' i = if j ≤ i ∧ i < 8 then fz k (m.2 7 i) else m.2 7 i := by
  intro n
  induction n with
  | zero => intro j m _ h; omega
  | succ n ih =>
    intro j m hj hn
    by_cases h : j < 8
    · obtain ⟨t', e, ht⟩ := ih (j + 1) (sG m 7 (upd (m.2 7) j (fz k (m.2 7 j)))) (by omega) (by omega)
      rw [sG_sG] at e
      rw [sG_2] at ht
      have cj : (nI j).toNatClampNeg = j := clN (by omega)
      refine ⟨t', ?_, fun i => ?_⟩
      · have ev : (if m.2 7 j = nI k then some (-1 : Int32) else if ib (nI j) 8 then some (m.2 7 j) else none) = some (fz k (m.2 7 j)) := by
          unfold fz
          by_cases q : m.2 7 j = nI k
          · rw [if_pos q, if_pos q]
          · rw [if_neg q, if_neg q, if_pos (ib8 h)]
        rw [f_L_sweep_L133]
        simp only [cj, addR]
        rw [if_pos ((ltL (by omega) (by omega)).mpr h), if_pos (ib8 h), ev, Option.bind_some, if_pos (ib8 h), sA_nI _ _ _ (by omega)]
        exact e
      · rw [ht i]
        by_cases ei : i = j
        · subst ei
          rw [if_neg (fun q => by omega), upd_eq, if_pos ⟨Nat.le_refl _, h⟩]
        · rw [upd_ne ei]
          by_cases z : j + 1 ≤ i ∧ i < 8
          · rw [if_pos z, if_pos ⟨by omega, z.2⟩]
          · rw [if_neg z, if_neg (fun q => z ⟨by omega, q.2⟩)]
    · have h4 : j = 8 := by omega
      subst h4
      refine ⟨m.2 7, ?_, fun i => (if_neg (fun q => by omega)).symm⟩
      rw [f_L_sweep_L133, if_neg (by decide), sG_self]
theorem En_neg {p : Int32} {m : St} {s : Nat → Int32} (hE : En m s) (hP : gP p s) {k : Nat} (hk : k < 24) : m.2 2 k < 0 ↔ tb p k = false := by
  have h1 := (hE.1 k hk).1
  rw [hP k hk] at h1
  cases e : tb p k
  · rw [e] at h1
    exact ⟨fun _ => rfl, fun _ => by
      by_cases q : m.2 2 k < 0
      · exact q
      · rw [if_neg q] at h1; exact absurd h1 (by decide)⟩
  · rw [e] at h1
    exact ⟨fun q => by rw [if_pos q] at h1; exact absurd h1 (by decide), fun q => by cases q⟩
/-- behind a letting go, the law's rows -/
theorem En_gone {m : St} {s s1 F' T' : Nat → Int32} {k : Nat} (hk : k < 24) (hE : En m s) (hs : lgs s k s1) (hF : ∀ y, y < 24 → ∀ a, pkv a → m.2 1 y = pk a → ∃ a', pkv a' ∧ F' y = pk a' ∧ ∀ j, j < 3 → a' j = if 0 ≤ 3 * y + j ∧ a j = k + 1 then 0 else a j) (hT : ∀ i, T' i = if 0 ≤ i ∧ i < 8 then fz k (m.2 7 i) else m.2 7 i) (v : Int32) :
    EnR (upd (upd (upd (m.2 0) 1 v) 4 (m.2 0 4 + 1)) 7 (m.2 0 7 ||| (1 <<< (nI k &&& 31)))) F' (upd (m.2 2) k (-1)) (m.2 3) (m.2 4) (m.2 5) (m.2 6) T' (upd s1 227 v) := by
  obtain ⟨h1, h2, h3, h4, h5⟩ := hE
  obtain ⟨l1, l2, l3, l4, l5, l6, l7, l8⟩ := hs
  have cne : ∀ y, y ≠ k → upd (m.2 2) k (-1) y = m.2 2 y := fun y e => upd_ne e
  have ck : upd (m.2 2) k (-1) k = -1 := upd_eq _ _ _
  refine ⟨fun y hy => ?_, fun y hy => ?_, fun j hj => ?_, fun j hj => ?_, ?_⟩
  · by_cases e : y = k
    · subst e
      refine ⟨?_, fun q => absurd (show upd (m.2 2) y (-1) y < 0 by rw [ck]; decide) q⟩
      rw [upd_ne (by omega), l1 y hy, if_pos rfl, ck]
      rfl
    · obtain ⟨a, b⟩ := h1 y hy
      rw [cne y e]
      refine ⟨by rw [upd_ne (by omega), l1 y hy, if_neg e]; exact a, fun q => ?_⟩
      obtain ⟨b1, b2, b3⟩ := b q
      refine ⟨?_, ?_, ?_⟩
      · rw [upd_ne (by omega), l3 y 4 hy (by omega) (by omega)]; exact b1
      · rw [upd_ne (by omega), l3 y 5 hy (by omega) (by omega)]; exact b2
      · rw [upd_ne (by omega), l3 y 6 hy (by omega) (by omega)]; exact b3
  · obtain ⟨a, b1, b2, b3⟩ := h2 y hy
    obtain ⟨a', c1, c2, c3⟩ := hF y hy a b1 b2
    refine ⟨a', c1, c2, fun q i hi => ?_⟩
    have e : y ≠ k := fun e => by subst e; rw [ck] at q; exact q (by decide)
    rw [cne y e] at q
    rw [upd_ne (by omega), l2 y i hy hi, b3 q i hi, c3 i hi]
    have d := nIm_dec (a i) (by have := b1 i hi; omega) k hk
    unfold fz
    by_cases z : a i = k + 1
    · rw [if_pos (d.mpr z), if_pos ⟨Nat.zero_le _, z⟩]; rfl
    · rw [if_neg (fun q => z (d.mp q)), if_neg (fun q => z q.2)]
  · rw [upd_ne (by omega), upd_ne (by omega), l5 _ (by omega) (by omega), l5 _ (by omega) (by omega)]
    exact h3 j hj
  · rw [upd_ne (by omega), l4 j hj, hT j, if_pos ⟨Nat.zero_le _, hj⟩, h4 j hj]
  · obtain ⟨a, b, c1, d, e, f1, i, j, k1, l, m1⟩ := h5
    have q : ∀ x, 226 ≤ x → x ≠ 227 → x ≠ 230 → x ≠ 233 → upd s1 227 v x = s x := fun x x1 x2 x3 x4 => by rw [upd_ne x2]; exact l6 x x1 x3 x4
    refine ⟨?_, fun _ => ?_, ?_, ?_, ?_, ?_, ?_, ?_, ?_, ?_, ?_⟩
    · rw [q _ (by omega) (by omega) (by omega) (by omega), upd_ne (by omega), upd_ne (by omega), upd_ne (by omega)]; exact a
    · rw [upd_eq, upd_ne (by omega), upd_ne (by omega), upd_eq]
    · rw [q _ (by omega) (by omega) (by omega) (by omega), upd_ne (by omega), upd_ne (by omega), upd_ne (by omega)]; exact c1
    · rw [q _ (by omega) (by omega) (by omega) (by omega), upd_ne (by omega), upd_ne (by omega), upd_ne (by omega)]; exact d
    · rw [upd_ne (by omega), l7, upd_ne (by omega), upd_eq, e]
    · rw [q _ (by omega) (by omega) (by omega) (by omega), upd_ne (by omega), upd_ne (by omega), upd_ne (by omega)]; exact f1
    · rw [q _ (by omega) (by omega) (by omega) (by omega), upd_ne (by omega), upd_ne (by omega), upd_ne (by omega)]; exact i
    · rw [upd_ne (by omega), l8, upd_eq, j, sh_bI hk]
    · rw [q _ (by omega) (by omega) (by omega) (by omega), upd_ne (by omega), upd_ne (by omega), upd_ne (by omega)]; exact k1
    · rw [upd_ne (by omega), l5 _ (by omega) (by omega), upd_ne (by omega), upd_ne (by omega), upd_ne (by omega)]; exact l
    · rw [upd_ne (by omega), l5 _ (by omega) (by omega), upd_ne (by omega), upd_ne (by omega), upd_ne (by omega)]; exact m1
theorem sub_sub1 (a b : Int32) : a - (b + 1) = a - b - 1 := by
  rw [Int32.sub_eq_add_neg, Int32.sub_eq_add_neg, Int32.sub_eq_add_neg, Int32.neg_add, Int32.sub_eq_add_neg, Int32.add_assoc]
theorem bal_gone {s s1 : Nat → Int32} {k : Nat} (hk : k < 24) (hp : s (7 * k) = 1) (hs : lgs s k s1) (b : Bal s) (v : Int32) : Bal (upd s1 227 v) := by
  obtain ⟨l1, l2, l3, l4, l5, l6, l7, l8⟩ := hs
  unfold Bal at *
  have e : cntP s = cntP (upd s1 227 v) + 1 := by
    unfold cntP
    refine cnt_one (k := k) (fun j hj q => ?_) hk (decide_eq_true hp) ?_
    · rw [upd_ne (by omega), l1 j hj, if_neg q]
    · rw [upd_ne (by omega), l1 k hk, if_pos rfl]
      decide
  rw [e] at b
  rw [upd_ne (by omega), upd_ne (by omega), l6 229 (by omega) (by omega) (by omega), l7, sub_sub1, b, subL1]
theorem T_sweep {w m M : St} {B : Nat} {rw li : List Nat} {s' : Nat → Int32} (hS : SimB w (M.2 0) B [] rw li) (h3 : w.1 15 = 3) (hE : En m (M.2 0)) (hX : f_X7_sweeps M = some (0, sG M 0 s')) : ∃ m', f_L_sweep m = some (0, m') ∧ En m' s' ∧ (Bal (M.2 0) → Bal s') := by
  obtain ⟨f, hf, hf18⟩ := hS.2.2.2.2.2.2.2.2.2.2.2.2.2.2.2.1
  have hN := hS.2.2.2.2.2.2.2.2.2.2.2.2.1
  have h227 : M.2 0 227 = nI f := hN.2.1.trans hf18
  have hG := En_g hE
  have hg0 : m.2 0 0 = 3 := hG.1.symm.trans (hN.1.trans h3)
  have hg1 : m.2 0 1 = nI f := (hG.2.1 hg0).symm.trans h227
  obtain ⟨r2, e2, hL2⟩ := sw9 hS.2.1 BIG f hf (by unfold BIG; omega)
  obtain ⟨k, k1, k2, el, k3, k4⟩ := ls0 BIG f m hf (by unfold BIG; omega) hg1
  have e2' : f_X7_sweeps_L9 BIG (M.2 0 (227 : Int32).toNatClampNeg) M = some (r2, M) := by rw [c227, h227]; exact e2
  have hneg : ∀ y, y < 24 → (m.2 2 y < 0 ↔ tb (w.1 13) y = false) := fun y hy => En_neg hE hS.2.1 hy
  have hr2 : r2 = nI k := by
    rcases hL2 with ⟨k', z1, z2, z3, z4, rfl⟩ | ⟨rfl, z⟩
    · rcases Nat.lt_trichotomy k' k with q | q | q
      · have := (hneg k' z2).mp (k3 k' z1 q)
        rw [this] at z3; cases z3
      · rw [q]
      · exact absurd ((hneg k (by omega)).mpr (z4 k k1 q)) (k4 (by omega))
    · rcases Nat.lt_or_ge k 24 with q | q
      · exact absurd ((hneg k q).mpr (z k k1 q)) (k4 q)
      · rw [show k = 24 by omega]
  subst hr2
  unfold f_X7_sweeps at hX
  rw [if_pos ib227, e2'] at hX
  simp only [Option.bind_some] at hX
  have u1 : upd (m.2 0) 1 (nI k) 1 = nI k := upd_eq _ _ _
  rcases Nat.lt_or_ge k 24 with hk | hk
  · have hn24 : ¬ nI k = 24 := fun q => by have := (nI_eq (a := k) (b := 24) (by omega) (by omega)).mp q; omega
    have hp : tb (w.1 13) k = true := by
      cases e : tb (w.1 13) k
      · exact absurd ((hneg k hk).mpr e) (k4 hk)
      · rfl
    have ck : (nI k).toNatClampNeg = k := clN (by omega)
    obtain ⟨hc, _, h5, _⟩ := En_c hE hk (p_one hS.2.1 k hk hp)
    rw [if_neg hn24, e_of5 hk] at hX
    simp only [Option.bind_some] at hX
    by_cases h0 : m.2 2 k = 0
    · obtain ⟨s1, e4, hs⟩ := e_letsGo hk M
      rw [if_pos (h5.trans h0), e4] at hX
      simp only [Option.bind_some] at hX
      rw [if_pos ib227] at hX
      simp only [sA, c227, sG_2, sG_sG, nI_eq_of] at hX
      have es := some_sG hX
      subst es
      obtain ⟨F', eF1, hF⟩ := sp90 hk BIG 0 (sG (sG m 2 (upd (m.2 2) k (-1))) 0 (upd (upd (upd (m.2 0) 1 (nI (k + 1))) 4 (m.2 0 4 + 1)) 7 (m.2 0 7 ||| (1 <<< (nI k &&& 31))))) (by omega) (by unfold BIG; omega) (fun y hy => by
        obtain ⟨a, b1, b2, _⟩ := hE.2.1 y hy
        exact ⟨a, b1, b2⟩)
      obtain ⟨T', eT1, hT⟩ := sp133 (k := k) BIG 0 (sG (sG (sG m 2 (upd (m.2 2) k (-1))) 0 (upd (upd (upd (m.2 0) 1 (nI (k + 1))) 4 (m.2 0 4 + 1)) 7 (m.2 0 7 ||| (1 <<< (nI k &&& 31))))) 1 F') (by omega) (by unfold BIG; omega)
      refine ⟨sG (sG (sG (sG m 2 (upd (m.2 2) k (-1))) 0 (upd (upd (upd (m.2 0) 1 (nI (k + 1))) 4 (m.2 0 4 + 1)) 7 (m.2 0 7 ||| (1 <<< (nI k &&& 31))))) 1 F') 7 T', ?_, ?_, fun hb => bal_gone hk (p_one hS.2.1 k hk hp) hs hb _⟩
      · unfold f_L_sweep
        rw [el, Option.bind_some]
        simp only [sG_2, cl_1, u1, ck]
        rw [if_pos i11_1, if_neg hn24, if_pos i11_1, if_pos i11_1, if_pos i11_1, if_pos (ib24 hk), if_neg (show ¬ (0 : Int32) < (sG m 0 (upd (m.2 0) 1 (nI k))).2 2 k from by show ¬ (0 : Int32) < m.2 2 k; rw [h0]; decide), if_pos (ib24 hk), if_pos i11_4, if_pos i11_4, if_pos i11_7, if_pos i11_7]
        have est : sA (sA (sA (sA (sG m 0 (upd (m.2 0) 1 (nI k))) 0 1 (nI k + 1)) 2 (nI k) (-1)) 0 4 ((sA (sA (sG m 0 (upd (m.2 0) 1 (nI k))) 0 1 (nI k + 1)) 2 (nI k) (-1)).2 0 (4 : Int32).toNatClampNeg + 1)) 0 7 ((sA (sA (sA (sG m 0 (upd (m.2 0) 1 (nI k))) 0 1 (nI k + 1)) 2 (nI k) (-1)) 0 4 ((sA (sA (sG m 0 (upd (m.2 0) 1 (nI k))) 0 1 (nI k + 1)) 2 (nI k) (-1)).2 0 (4 : Int32).toNatClampNeg + 1)).2 0 (7 : Int32).toNatClampNeg ||| (1 <<< (nI k &&& 31))) = sG (sG m 2 (upd (m.2 2) k (-1))) 0 (upd (upd (upd (m.2 0) 1 (nI (k + 1))) 4 (m.2 0 4 + 1)) 7 (m.2 0 7 ||| (1 <<< (nI k &&& 31)))) := by
          have uu : upd (upd (m.2 0) 1 (nI k)) 1 (nI (k + 1)) = upd (m.2 0) 1 (nI (k + 1)) := by
            funext i
            unfold upd
            by_cases e1 : i = 1
            · rw [if_pos e1, if_pos e1]
            · rw [if_neg e1, if_neg e1, if_neg e1]
          simp only [sA, cl_1, cl_4, cl_7, ck, nI_eq_of]
          refine Prod.ext rfl ?_
          funext b
          by_cases b0 : b = 0
          · subst b0
            show upd (upd (upd (upd (m.2 0) 1 (nI k)) 1 (nI (k + 1))) 4 ((upd (upd (m.2 0) 1 (nI k)) 1 (nI (k + 1))) 4 + 1)) 7 ((upd (upd (upd (m.2 0) 1 (nI k)) 1 (nI (k + 1))) 4 ((upd (upd (m.2 0) 1 (nI k)) 1 (nI (k + 1))) 4 + 1)) 7 ||| (1 <<< (nI k &&& 31))) = upd (upd (upd (m.2 0) 1 (nI (k + 1))) 4 (m.2 0 4 + 1)) 7 (m.2 0 7 ||| (1 <<< (nI k &&& 31)))
            rw [uu, upd_ne (show (4 : Nat) ≠ 1 by decide), upd_ne (show (7 : Nat) ≠ 4 by decide), upd_ne (show (7 : Nat) ≠ 1 by decide)]
          · by_cases b2 : b = 2
            · subst b2; rfl
            · show (if b = 0 then _ else if b = 0 then _ else if b = 2 then _ else if b = 0 then _ else if b = 0 then _ else m.2 b) = if b = 0 then _ else if b = 2 then _ else m.2 b
              simp only [b0, b2, if_false]
        rw [est, show f_L_sweep_L90 BIG (nI k) 0 (sG (sG m 2 (upd (m.2 2) k (-1))) 0 (upd (upd (upd (m.2 0) 1 (nI (k + 1))) 4 (m.2 0 4 + 1)) 7 (m.2 0 7 ||| (1 <<< (nI k &&& 31))))) = _ from eF1, Option.bind_some, show f_L_sweep_L133 BIG (nI k) 0 (sG (sG (sG m 2 (upd (m.2 2) k (-1))) 0 (upd (upd (upd (m.2 0) 1 (nI (k + 1))) 4 (m.2 0 4 + 1)) 7 (m.2 0 7 ||| (1 <<< (nI k &&& 31))))) 1 F') = _ from eT1]
        rfl
      · exact En_gone hk hE hs hF hT (nI (k + 1))
    · have hne : ¬ M.2 0 (7 * k + 5) = 0 := fun q => h0 (h5.symm.trans q)
      rw [if_neg hne, show f_X7_sets (nI k) 5 0 M = some (0, sG M 0 (upd (M.2 0) (7 * k + 5) 0)) from e_sets (j := 5) (by omega) 0] at hX
      simp only [Option.bind_some] at hX
      rw [if_pos ib227] at hX
      simp only [sA, c227, sG_2, sG_sG, nI_eq_of] at hX
      have es := some_sG hX
      subst es
      have hpos : (0 : Int32) < m.2 2 k := by
        have := hS.2.2.2.2.1 k hk hp
        rw [h5] at this
        by_cases q : tb (w.1 17) k = true
        · rw [q, if_pos rfl] at this; rw [this]; decide
        · have q : tb (w.1 17) k = false := by simpa using q
          rw [q] at this
          by_cases q2 : tb (w.1 16) k = true
          · rw [q2] at this
            simp only [Bool.false_eq_true, if_false, if_true] at this
            rw [this]; decide
          · have q2 : tb (w.1 16) k = false := by simpa using q2
            rw [q2] at this
            simp only [Bool.false_eq_true, if_false] at this
            exact absurd this h0
      refine ⟨sG (sG m 0 (upd (m.2 0) 1 (nI (k + 1)))) 2 (upd (m.2 2) k 0), ?_, E_g1 (E_c hE hk hc (v := 0) (by decide)) (nI (k + 1)), (frB.bal ⟨fun y hy => by rw [upd_ne (by omega), upd_ne (by omega)], by rw [upd_ne (by omega), upd_ne (by omega)], by rw [upd_ne (by omega), upd_ne (by omega)]⟩)⟩
      unfold f_L_sweep
      rw [el, Option.bind_some]
      simp only [sG_2, cl_1, u1, ck]
      rw [if_pos i11_1, if_neg hn24, if_pos i11_1, if_pos i11_1, if_pos i11_1, if_pos (ib24 hk), if_pos (show (0 : Int32) < (sG m 0 (upd (m.2 0) 1 (nI k))).2 2 k from hpos), if_pos (ib24 hk)]
      simp only [sA, cl_1, ck, nI_eq_of, sG_sG, sG_2]
      congr 3
      · congr 1
        funext i
        unfold upd
        by_cases e1 : i = 1
        · rw [if_pos e1, if_pos e1]
        · rw [if_neg e1, if_neg e1, if_neg e1]
  · have h4 : k = 24 := by omega
    subst h4
    rw [if_pos (show nI 24 = 24 from rfl), if_pos ib226] at hX
    simp only [sA, c226] at hX
    have es := some_sG hX
    subst es
    refine ⟨sG m 0 (upd (upd (m.2 0) 1 (nI 24)) 0 0), ?_, ?_, (frB.bal ⟨fun y hy => by rw [upd_ne (by omega)], by rw [upd_ne (by omega)], by rw [upd_ne (by omega)]⟩)⟩
    · unfold f_L_sweep
      rw [el, Option.bind_some]
      simp only [sG_2, cl_1, u1]
      rw [if_pos i11_1, if_pos (show nI 24 = 24 from rfl), if_pos i11_0]
      simp only [sA, cl_0, sG_sG, sG_2]
    · rw [upd_comm (show (1 : Nat) ≠ 0 by decide)]
      exact E_g1n (E_g0 hE (v := 0) (fun q => absurd q (by decide))) (by rw [upd_eq]; decide) (nI 24)
