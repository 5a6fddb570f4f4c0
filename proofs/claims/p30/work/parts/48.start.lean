theorem arrq_at {D : va_G} {cl : List vw_C} {a n : Nat} {cA : ClassId} {f g : Nat → Option Nat} {H : Heap} (h : ∀ k, k < n → f k = g k) (hz : va_at D cl (a, .inl (cA, n, .inr (.inr (.inr (.inr f))))) H) : va_at D cl (a, .inl (cA, n, .inr (.inr (.inr (.inr g))))) H := by
  have e : vp_cell cA (n, .inr (.inr (.inr (.inr f)))) = vp_cell cA (n, .inr (.inr (.inr (.inr g)))) := by
    show arrV cA n (fun j => va_rf (f j)) = arrV cA n (fun j => va_rf (g j))
    unfold arrV
    congr 1
    congr 1
    funext j
    exact congrArg va_rf (h j.val j.isLt)
  show H[a]? = some _
  rw [← e]
  exact hz
theorem same_set {D : va_G} {w : va_W} {k a : Nat} {e e' : va_E} (hk : w[k]? = some (a, e')) (h : ∀ H, va_at D vwCl (a, e) H → va_at D vwCl (a, e') H) : ∀ H, va_P D vwCl (w.set k (a, e)) H → va_P D vwCl w H := by
  intro H hP j q hq
  have hl := (List.getElem?_eq_some_iff.mp hk).1
  by_cases ej : k = j
  · subst ej
    rw [hk] at hq
    cases hq
    exact h H (hP k (a, e) (by rw [List.getElem?_set_self hl]))
  · exact hP j q (by rw [List.getElem?_set_ne ej]; exact hq)
def adI (q1 : Nat) (qs2 qa : Nat → Nat) : Nat → Nat := fun k => ([qs2 90, qs2 91, q1, qs2 33, qs2 34, qs2 0, qs2 1, qs2 7, qs2 5, qs2 8, qs2 2, qs2 3, qs2 4, qs2 6, qs2 9, qs2 10, qs2 11, qs2 12, qs2 18, qs2 16, qs2 19, qs2 13, qs2 14, qs2 15, qs2 17, qs2 20, qs2 21, qs2 22, qs2 23, qs2 29, qs2 27, qs2 30, qs2 24, qs2 25, qs2 26, qs2 28, qs2 31, qs2 32, qs2 35, qs2 36, qs2 42, qs2 40, qs2 43, qs2 37, qs2 38, qs2 39, qs2 41, qs2 44, qs2 45, qs2 46, qs2 47, qs2 53, qs2 51, qs2 54, qs2 48, qs2 49, qs2 50, qs2 52, qs2 55, qs2 56, qs2 57, qs2 58, qs2 64, qs2 62, qs2 65, qs2 59, qs2 60, qs2 61, qs2 63, qs2 66, qs2 67, qs2 68, qs2 69, qs2 75, qs2 73, qs2 76, qs2 70, qs2 71, qs2 72, qs2 74, qs2 77, qs2 78, qs2 79, qs2 80, qs2 86, qs2 84, qs2 87, qs2 81, qs2 82, qs2 83, qs2 85, qs2 88, qs2 89, qa 0, qa 1, qa 2, qa 3, qa 4, qa 5, qa 6, qa 7] : List Nat).getD k 0
def gH (qs2 : Nat → Nat) : Nat → Option Nat := va_up (va_up (va_up (va_up (va_up (fun _ => none) (0 : Int32).toNatClampNeg (some (qs2 35))) (0 + 1 : Int32).toNatClampNeg (some (qs2 46))) ((0 + 1) + 1 : Int32).toNatClampNeg (some (qs2 57))) (((0 + 1) + 1) + 1 : Int32).toNatClampNeg (some (qs2 68))) ((((0 + 1) + 1) + 1) + 1 : Int32).toNatClampNeg (some (qs2 79))
theorem gH_eq (q1 : Nat) (qs2 qa : Nat → Nat) : ∀ k, k < 5 → gH qs2 k = hC (adI q1 qs2 qa) k := by
  intro k hk
  rcases (by omega : k = 0 ∨ k = 1 ∨ k = 2 ∨ k = 3 ∨ k = 4) with rfl | rfl | rfl | rfl | rfl <;> rfl
def plL : List Nat := [91, 92, 0, 34, 35, 1, 2, 8, 6, 9, 3, 4, 5, 7, 10, 11, 12, 13, 19, 17, 20, 14, 15, 16, 18, 21, 22, 23, 24, 30, 28, 31, 25, 26, 27, 29, 32, 33, 36, 37, 43, 41, 44, 38, 39, 40, 42, 45, 46, 47, 48, 54, 52, 55, 49, 50, 51, 53, 56, 57, 58, 59, 65, 63, 66, 60, 61, 62, 64, 67, 68, 69, 70, 76, 74, 77, 71, 72, 73, 75, 78, 79, 80, 81, 87, 85, 88, 82, 83, 84, 86, 89, 90, 93, 94, 95, 96, 97, 98, 99, 100]
def wL0 (cI : ClassId × ClassId) (q1 : Nat) (qs2 qa : Nat → Nat) : va_W := (wJ [] (adI q1 qs2 qa) cI (t0, m0)).set 4 (adI q1 qs2 qa 4, .inl (cI.2, 5, .inr (.inr (.inr (.inr (gH qs2))))))
def arrL (cI : ClassId × ClassId) (qa : Nat → Nat) : va_W := [(qa 0, .inl (cI.1, 11, .inl (fun _ => 0))), (qa 1, .inl (cI.1, 24, .inl (fun _ => 0))), (qa 2, .inl (cI.1, 24, .inl (fun _ => 0))), (qa 3, .inl (cI.1, 24, .inl (fun _ => 0))), (qa 4, .inl (cI.1, 24, .inl (fun _ => 0))), (qa 5, .inl (cI.1, 24, .inl (fun _ => 0))), (qa 6, .inl (cI.1, 24, .inl (fun _ => 0))), (qa 7, .inl (cI.1, 8, .inl (fun _ => 0)))]
set_option maxHeartbeats 16000000 in
set_option maxRecDepth 1000000 in
theorem perm_map (cI : ClassId × ClassId) (q1 : Nat) (qs2 qa : Nat → Nat) : plL.map (fun i => (F_X6 cI q1 qs2 ++ arrL cI qa)[i]?) = (wL0 cI q1 qs2 qa).map some := rfl
theorem fm_of_map {α β : Type} {f : α → Option β} {l : List α} {r : List β} (h : l.map f = r.map some) : l.filterMap f = r := by
  have h1 : l.filterMap f = (l.map f).filterMap id := by rw [List.filterMap_map]; rfl
  rw [h1, h, List.filterMap_map]
  exact List.filterMap_some
theorem plL_nd : va_nd plL = true := by decide +kernel
section ST
variable {p : Program} {l : Launch} {e : Env} {R : Room} {s : State} {m : MethodId} {args : Array Value} {below : List Frame} {meth : Method} {c : Code} {D : va_G} {A : Nat → Prop} {nL : Nat} {Q : State → Prop} {kc ks : Nat} {cI : ClassId × ClassId} {pc : Nat} {lo : List (Option Value)} {st : List Value}
theorem to_L {q1 : Nat} {qs2 qa : Nat → Nat} (k : G p l e R s m args below meth c D A nL Q (wJ [] (adI q1 qs2 qa) cI) kc ks pc lo st (t0, m0)) : G p l e R s m args below meth c D A nL Q wI kc ks pc lo st (F_X6 cI q1 qs2 ++ [(qa 0, .inl (cI.1, 11, .inl (fun _ => 0)))] ++ [(qa 1, .inl (cI.1, 24, .inl (fun _ => 0)))] ++ [(qa 2, .inl (cI.1, 24, .inl (fun _ => 0)))] ++ [(qa 3, .inl (cI.1, 24, .inl (fun _ => 0)))] ++ [(qa 4, .inl (cI.1, 24, .inl (fun _ => 0)))] ++ [(qa 5, .inl (cI.1, 24, .inl (fun _ => 0)))] ++ [(qa 6, .inl (cI.1, 24, .inl (fun _ => 0)))] ++ [(qa 7, .inl (cI.1, 8, .inl (fun _ => 0)))]) := by
  intro H locs ls hl hP hD hS
  have eA : F_X6 cI q1 qs2 ++ [(qa 0, .inl (cI.1, 11, .inl (fun _ => 0)))] ++ [(qa 1, .inl (cI.1, 24, .inl (fun _ => 0)))] ++ [(qa 2, .inl (cI.1, 24, .inl (fun _ => 0)))] ++ [(qa 3, .inl (cI.1, 24, .inl (fun _ => 0)))] ++ [(qa 4, .inl (cI.1, 24, .inl (fun _ => 0)))] ++ [(qa 5, .inl (cI.1, 24, .inl (fun _ => 0)))] ++ [(qa 6, .inl (cI.1, 24, .inl (fun _ => 0)))] ++ [(qa 7, .inl (cI.1, 8, .inl (fun _ => 0)))] = F_X6 cI q1 qs2 ++ arrL cI qa := by
    simp only [List.append_assoc, List.cons_append, List.nil_append, arrL]
  have hP : va_P D vwCl (F_X6 cI q1 qs2 ++ [(qa 0, .inl (cI.1, 11, .inl (fun _ => 0)))] ++ [(qa 1, .inl (cI.1, 24, .inl (fun _ => 0)))] ++ [(qa 2, .inl (cI.1, 24, .inl (fun _ => 0)))] ++ [(qa 3, .inl (cI.1, 24, .inl (fun _ => 0)))] ++ [(qa 4, .inl (cI.1, 24, .inl (fun _ => 0)))] ++ [(qa 5, .inl (cI.1, 24, .inl (fun _ => 0)))] ++ [(qa 6, .inl (cI.1, 24, .inl (fun _ => 0)))] ++ [(qa 7, .inl (cI.1, 8, .inl (fun _ => 0)))]) H := hP
  have hD : va_D A (F_X6 cI q1 qs2 ++ [(qa 0, .inl (cI.1, 11, .inl (fun _ => 0)))] ++ [(qa 1, .inl (cI.1, 24, .inl (fun _ => 0)))] ++ [(qa 2, .inl (cI.1, 24, .inl (fun _ => 0)))] ++ [(qa 3, .inl (cI.1, 24, .inl (fun _ => 0)))] ++ [(qa 4, .inl (cI.1, 24, .inl (fun _ => 0)))] ++ [(qa 5, .inl (cI.1, 24, .inl (fun _ => 0)))] ++ [(qa 6, .inl (cI.1, 24, .inl (fun _ => 0)))] ++ [(qa 7, .inl (cI.1, 8, .inl (fun _ => 0)))]) := hD
  rw [eA] at hP hD
  have hP1 := hP.sub plL (fm_of_map (perm_map cI q1 qs2 qa))
  have hD1 := hD.sub plL plL_nd (perm_map cI q1 qs2 qa)
  have hP2 := same_set (w := wJ [] (adI q1 qs2 qa) cI (t0, m0)) (k := 4) rfl (fun H h => arrq_at (fun k hk => gH_eq q1 qs2 qa k hk) h) H hP1
  have hset : (wL0 cI q1 qs2 qa).map Prod.fst = (wJ [] (adI q1 qs2 qa) cI (t0, m0)).map Prod.fst := rfl
  refine k H locs ls hl hP2 ?_ hS
  rw [va_D_iff] at hD1 ⊢
  rw [hset] at hD1
  refine ⟨hD1.1, fun q hq => ?_⟩
  have h1 : q.1 ∈ (wL0 cI q1 qs2 qa).map Prod.fst := by rw [hset]; exact List.mem_map_of_mem hq
  obtain ⟨z, hz, he⟩ := List.mem_map.mp h1
  rw [← he]
  exact hD1.2 z hz
end ST
