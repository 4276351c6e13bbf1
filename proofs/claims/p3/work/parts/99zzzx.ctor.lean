/-! The constructor of the reference. -/
section CTOR
def dAk (ck : Nat → ClassId) : Nat → ClassId := fun kd => match kd with
  | 0 => ck 3
  | 1 => ck 6
  | 2 => ck 5
  | _ => ck 1
theorem ra_uq {s : State} {kd : Nat} {a b : ClassId} (h1 : va_RA s a (tyK kd)) (h2 : va_RA s b (tyK kd)) : a = b := by
  match kd, h1, h2 with
  | 0, h1, h2 => exact Option.some.inj ((show s.vm.findClass _ = some a from h1).symm.trans (show s.vm.findClass _ = some b from h2))
  | 1, h1, h2 => exact Option.some.inj ((show s.vm.findClass _ = some a from h1).symm.trans (show s.vm.findClass _ = some b from h2))
  | 2, h1, h2 => exact Option.some.inj ((show s.vm.findClass _ = some a from h1).symm.trans (show s.vm.findClass _ = some b from h2))
  | n + 3, h1, h2 => exact Option.some.inj ((show s.vm.findClass _ = some a from h1).symm.trans (show s.vm.findClass _ = some b from h2))
theorem pt_at {ck : Nat → ClassId} {n h : Nat} (h1 : 1 ≤ h) (h2 : h ≤ n) : (ptY ck n)[h - 1]? = some (ck h, tyK (mjKd h)) := by
  unfold ptY
  rw [List.getElem?_map, List.getElem?_range (by omega)]
  show some (ck (h - 1 + 1), tyK (mjKd (h - 1 + 1))) = _
  rw [show h - 1 + 1 = h by omega]
theorem kd_1 : mjKd 3 = 0 ∧ mjKd 6 = 1 ∧ mjKd 5 = 2 ∧ mjKd 1 = 3 := by decide
theorem kd_4 : ∀ h, h < 61 → 1 ≤ h → mjKd h < 4 := by decide +kernel
theorem ck_eq {dC : Nat → ClassId} {dI : Nat → Nat → Nat} {s : State} {ck : Nat → ClassId} (hK : va_K (dC, dI) classes (ptY ck 60) s) {h : Nat} (h1 : 1 ≤ h) (h2 : h ≤ 60) : ck h = dAk ck (mjKd h) := by
  have a := (hK.2 _ _ (pt_at h1 h2)).2
  have f : ∀ g, 1 ≤ g → g ≤ 60 → mjKd g = mjKd h → ck h = ck g := fun g g1 g2 e => by
    have b := (hK.2 _ _ (pt_at g1 g2)).2
    rw [e] at b
    exact ra_uq a b
  have k4 := kd_4 h (by omega) h1
  have : mjKd h = 0 ∨ mjKd h = 1 ∨ mjKd h = 2 ∨ mjKd h = 3 := by omega
  rcases this with e | e | e | e
  · rw [e]; exact f 3 (by decide) (by decide) (by rw [e]; decide)
  · rw [e]; exact f 6 (by decide) (by decide) (by rw [e]; decide)
  · rw [e]; exact f 5 (by decide) (by decide) (by rw [e]; decide)
  · rw [e]; exact f 1 (by decide) (by decide) (by rw [e]; decide)
theorem K_ty {dC : Nat → ClassId} {dI : Nat → Nat → Nat} {s : State} {ck : Nat → ClassId} (hK : va_K (dC, dI) classes (ptY ck 60) s) : va_K (dC, dI) classes (mjTy (dAk ck)) s := by
  refine ⟨hK.1, fun k q hq => ?_⟩
  have p3 := hK.2 _ _ (pt_at (ck := ck) (n := 60) (h := 3) (by decide) (by decide))
  have p6 := hK.2 _ _ (pt_at (ck := ck) (n := 60) (h := 6) (by decide) (by decide))
  have p5 := hK.2 _ _ (pt_at (ck := ck) (n := 60) (h := 5) (by decide) (by decide))
  have p1 := hK.2 _ _ (pt_at (ck := ck) (n := 60) (h := 1) (by decide) (by decide))
  match k, hq with
  | 0, hq => cases hq; exact p3
  | 1, hq => cases hq; exact p6
  | 2, hq => cases hq; exact p5
  | 3, hq => cases hq; exact p1
  | k + 4, hq => cases hq
theorem na_116 : naF 116 = 60 ∧ slF 116 = 3453384 ∧ pcN (itL.getD 116 0) = 789 ∧ itL.getD 116 0 = 410 ∧ pcN (itL.getD 0 0) = 4 := by decide +kernel
/-- the rows made, the world is the reader's -/
theorem W_full {dC : Nat → ClassId} {dI : Nat → Nat → Nat} {s : State} {ck : Nat → ClassId} {ad : Nat → Nat} (hK : va_K (dC, dI) classes (ptY ck 60) s) : pW0 ck ad 116 = mjW (dAk ck) ad Z0 := by
  unfold pW0 mjW
  rw [na_116.1]
  have e0 : mjE (dAk ck) ad Z0 0 = .inr (10, (List.range 116).map (pFV ad 116)) := by
    unfold mjE
    rw [if_pos rfl]
    refine congrArg (fun x => Sum.inr (10, x)) (List.map_congr_left (fun k hk => ?_))
    unfold pFV
    rw [if_pos (List.mem_range.mp hk)]
  have er : List.range mjKs.length = 0 :: (List.range 60).map (fun i => i + 1) := by decide +kernel
  rw [er, List.map_cons, e0, List.map_map]
  refine congrArg (fun x => _ :: x) ?_
  unfold pwA
  refine List.map_congr_left (fun i hi => ?_)
  have hi := List.mem_range.mp hi
  show (ad (i + 1), _) = (ad (i + 1), mjE (dAk ck) ad Z0 (i + 1))
  refine congrArg (fun x => (ad (i + 1), x)) ?_
  unfold mjE zrA
  rw [if_neg (show ¬ i + 1 = 0 by omega), ck_eq hK (h := i + 1) (by omega) (by omega)]
  by_cases c : mjKd (i + 1) = 3
  · rw [if_pos c, if_pos c, c]; rfl
  · rw [if_neg c, if_neg c]; rfl
theorem W.imp {p : Program} {l : Launch} {e : Env} {R : Room} {s : State} {m : MethodId} {args : Array Value} {below : List Frame} {meth : Method} {c : Code} {H : Heap} {locs : List Loc} {cells slots : Nat} {Q Q2 : State → Prop} {g : JFrame} (k : W p l e R s m args below meth c H locs cells slots Q g) (h : ∀ t, Q t → Q2 t) : W p l e R s m args below meth c H locs cells slots Q2 g := fun T hT X => by
  obtain ⟨t, a, b⟩ := k T hT X
  exact ⟨t, a, h t b⟩
end CTOR
