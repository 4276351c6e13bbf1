/-! starAt: a request in its long form. -/
section STAR
variable {Y : Nat → MethodName × ByteArray} {d : Nat}
/-- on, where there is something -/
def mz {α β : Type} (o : Option (Option α)) (f : α → Option (Option β)) : Option (Option β) := match o with
  | none => none
  | some none => some none
  | some (some z) => f z
theorem mz_z {α β : Type} {z : α} {f : α → Option (Option β)} : mz (some (some z)) f = f z := rfl
def swdF (b : Nat → Int32) (e : Nat) : Nat → Nat → Option (Option (Req × Nat))
  | 0, p => some (some ([], p))
  | m + 1, p => if e ≤ p then none else if ¬ b p = 36 then some none else mz (lnF b p e) (fun z => if z.1 < 0 ∨ 16384 < z.1 then some none else if (z.2 + z.1.toNatClampNeg < e ∧ ¬ b (z.2 + z.1.toNatClampNeg) = 13) ∨ (z.2 + z.1.toNatClampNeg + 1 < e ∧ ¬ b (z.2 + z.1.toNatClampNeg + 1) = 10) then some none else if e < z.2 + z.1.toNatClampNeg + 2 then none else mz (swdF b e m (z.2 + z.1.toNatClampNeg + 2)) (fun r => some (some (wd b z.2 z.1.toNatClampNeg :: r.1, r.2))))
def starF (b : Nat → Int32) (p e : Nat) : Option (Option (Req × Nat)) := mz (lnF b p e) (fun z => if 1024 < z.1 then some none else swdF b e (if z.1 < 0 then 0 else z.1.toNatClampNeg) z.2)
/-- the request's row has room for the words -/
def SLK (b : Nat → Int32) (e : Nat) : Nat → Nat → Nat → Prop
  | 0, _, _ => True
  | m + 1, p, rs => ∀ z, lnF b p e = some (some z) → ¬ z.1 < 0 → ¬ 16384 < z.1 → z.2 + z.1.toNatClampNeg + 2 ≤ e → rs + z.1.toNatClampNeg ≤ 131200 ∧ SLK b e m (z.2 + z.1.toNatClampNeg + 2) (rs + z.1.toNatClampNeg)
theorem lnF_le {b : Nat → Int32} {p e : Nat} {z : Int32 × Nat} (h : lnF b p e = some (some z)) : p + 3 ≤ z.2 ∧ z.2 ≤ e := by
  unfold lnF at h
  have hge := lsc_ge b p e 16 (p + 1)
  by_cases c : lsc b p e 16 (p + 1) + 1 < e ∧ lsc b p e 16 (p + 1) + 1 < p + 16
  · rw [if_pos c] at h
    have h := Option.some.inj h
    cases f : lnV b p (lsc b p e 16 (p + 1)) with
    | none => rw [f] at h; cases h
    | some v => rw [f] at h; cases h; exact ⟨by show p + 3 ≤ lsc b p e 16 (p + 1) + 2; omega, by show lsc b p e 16 (p + 1) + 2 ≤ e; omega⟩
  · rw [if_neg c] at h
    by_cases g : p + 16 ≤ e
    · rw [if_pos g] at h; cases h
    · rw [if_neg g] at h; cases h
theorem SLK_line {b : Nat → Int32} {e : Nat} : ∀ (m p rs : Nat), rs + (e - p) ≤ 131200 → SLK b e m p rs := by
  intro m
  induction m with
  | zero => intro p rs _; exact trivial
  | succ m ih =>
    intro p rs h z hz h1 h2 h3
    have := lnF_le hz
    exact ⟨by omega, ih _ _ (by omega)⟩
abbrev stFs : List Nat := [f_words, f_reqSize, f_lineNumber, f_lineEnd, f_faultWord]
def stK (σ : mjS) (ws0 : Req) (o : Option (Option (Req × Nat))) : mjK := fun r u => Fr stFs awH σ u ∧ (∃ ws', AR u ws') ∧ match o with
  | none => r = some (.int (-1))
  | some none => r = some (.int (-2))
  | some (some z) => r = some (.int (nI z.2)) ∧ AR u (ws0 ++ z.1)
theorem c_bad {σ : mjS} (ty : mjTY σ) (x : Int32) : mjY mjPP (mjQQ Y) d 167 0 (mjL0 2 [.ref 0, .int x]) [] σ (fun r u => r = some (.int (-2)) ∧ Fr [f_faultWord] [] σ u) := by
  refine mjZ_y rfl rfl 5 _ _ _ _ ty ?_
  refine (And.intro rfl (And.intro (Or.inl rfl) (fun ty' => And.intro rfl (And.intro (Or.inl rfl) ?_))))
  exact ⟨rfl, Fr.i (by decide)⟩
theorem i32_nn {z : Int32} (h : ¬ z < 0) : z = nI z.toNatClampNeg ∧ z.toNatClampNeg < 2 ^ 31 := by
  obtain ⟨k, hk, ek⟩ := nI_of (x := z) h
  have : z.toNatClampNeg = k := by rw [ek]; exact nI_clamp hk
  rw [this]; exact ⟨ek, hk⟩
set_option maxRecDepth 100000 in
theorem c_star_loop (h e : Nat) (hh : mjKd h = 1) (hn1 : h ≠ r_req) (hn2 : h ≠ r_aAt) (hn3 : h ≠ r_aLen) (he : e ≤ mjLn h) (hl : mjLn h < 2 ^ 29) (x2 x3 x5 : Int32) (e3 : x3 = nI e) (N : Nat) (hN : N ≤ 1024) (e5 : x5 = nI N) : ∀ (m p rs : Nat) (ws : Req) (σ : mjS) (x4 x6 x7 : Int32) (l8 : Option Value), x6 = nI p → p ≤ e → x7 = nI ws.length → ws.length + m = N → mjTY σ → ARr σ rs ws → SLK (σ.2.2.1 h) e m p rs →
    mjY mjPP (mjQQ Y) (d + 1) 168 36 [some (.ref 0), some (.ref h), some (.int x2), some (.int x3), some (.int x4), some (.int x5), some (.int x6), some (.int x7), l8] [] σ (stK σ ws (swdF (σ.2.2.1 h) e m p)) := by
  intro m
  induction m with
  | zero =>
    intro p rs ws σ x4 x6 x7 l8 e6 hp e7 hm ty ha hS
    refine mjZ_y rfl rfl 3 _ _ _ _ ty ?_
    refine And.intro (fun c => ?_) (fun c => ?_)
    · refine mjZ_y rfl rfl 2 _ _ _ _ ty ?_
      refine And.intro rfl (And.intro (Or.inl rfl) ?_)
      exact ⟨Fr.rf, ⟨ws, ha.ar⟩, by rw [e6], by rw [List.append_nil]; exact ha.ar⟩
    · exact absurd (show x5 ≤ x7 by rw [e5, e7]; exact nI_le (by omega) (by omega)) c
  | succ m ih =>
    intro p rs ws σ x4 x6 x7 l8 e6 hp e7 hm ty ha hS
    unfold swdF
    have cp : x6.toNatClampNeg = p := by rw [e6]; exact nI_clamp (by omega)
    refine mjZ_y rfl rfl 3 _ _ _ _ ty ?_
    refine And.intro (fun c => ?_) (fun c => ?_)
    · exact absurd (show x5 ≤ x7 from c) (by rw [e5, e7]; exact nI_ge (by omega) (by omega))
    refine mjZ_y rfl rfl 3 _ _ _ _ ty ?_
    refine And.intro (fun g => ?_) (fun g => ?_)
    rotate_left
    · have g : e ≤ p := Nat.le_of_not_lt (fun z => g (show x6 < x3 by rw [e6, e3]; exact Int32.not_le.mp (nI_ge z (by omega))))
      rw [if_pos g]
      refine mjZ_y rfl rfl 2 _ _ _ _ ty ?_
      refine And.intro rfl (And.intro (Or.inl rfl) ?_)
      exact ⟨Fr.rf, ⟨ws, ha.ar⟩, rfl⟩
    have g : p < e := Nat.lt_of_not_le (fun z => absurd (show x6 < x3 from g) (by rw [e6, e3]; exact Int32.not_lt.mpr (nI_le z (by omega))))
    rw [if_neg (by omega)]
    have vp : vp_in x6 (mjLn h) := by rw [e6]; exact vp_in_nI (by omega) (by omega)
    refine mjZ_y rfl rfl 5 _ _ _ _ ty ?_
    refine (And.intro (Or.inl hh) (And.intro vp (And.intro (fun k => ?_) (fun k => ?_))))
    rotate_left
    · have k : ¬ (σ.2.2.1 h) p = 36 := fun z => k (show σ.2.2.1 h x6.toNatClampNeg = (Int8.ofInt 36).toInt32 by rw [cp]; exact z)
      rw [if_pos k]
      refine mjZ_y rfl rfl 3 _ _ _ _ ty ?_
      refine (And.intro (Nat.le_of_ble_eq_true rfl) (And.intro rfl (And.intro (Nat.le_of_ble_eq_true rfl) (And.intro (Nat.le_of_ble_eq_true rfl) (mjY_mono ty (fun q_ u1 ty1 h_ => ?_) (c_bad ty _))))))
      obtain ⟨rfl, f1⟩ := h_
      intro _
      refine mjZ_y rfl rfl 1 _ _ _ _ ty1 ?_
      refine And.intro rfl (And.intro (Or.inl rfl) ?_)
      exact ⟨f1.up (by decide) (by decide), ⟨ws, ha.ar.fr f1 (by decide) (by decide) (by decide) (by decide)⟩, rfl⟩
    have k : (σ.2.2.1 h) p = 36 := by
      have k : σ.2.2.1 h x6.toNatClampNeg = (Int8.ofInt 36).toInt32 := k
      rw [cp] at k; exact k
    rw [if_neg (fun z => z k)]
    have hS' := hS
    refine mjZ_y rfl rfl 5 _ _ _ _ ty ?_
    refine (And.intro (Nat.le_of_ble_eq_true rfl) (And.intro rfl (And.intro (Nat.le_of_ble_eq_true rfl) (And.intro (Nat.le_of_ble_eq_true rfl) (mjY_mono ty (fun q_ u1 ty1 h_ => ?_) (c_lineAt ty h p e hh he hl g e6 e3))))))
    have k1 := h_
    intro _
    unfold lnK at k1
    cases hln : lnF (σ.2.2.1 h) p e with
    | none =>
      rw [hln] at k1
      obtain ⟨rfl, rfl⟩ := k1
      refine mjZ_y rfl rfl 1 _ _ _ _ ty1 ?_
      refine (And.intro (Nat.le_of_ble_eq_true rfl) ?_)
      refine mjZ_y rfl rfl 3 _ _ _ _ ty1 ?_
      refine And.intro (fun r => ?_) (fun r => ?_)
      · exact absurd rfl r
      · refine mjZ_y rfl rfl 2 _ _ _ _ ty1 ?_
        refine And.intro rfl (And.intro (Or.inl rfl) ?_)
        exact ⟨Fr.rf, ⟨ws, ha.ar⟩, rfl⟩
    | some o =>
      rw [hln] at k1
      have bad74 : ∀ v (x4 : Int32) (l8 : Option Value), mjTY v → Fr stFs awH σ v → AR v ws → mjY mjPP (mjQQ Y) (d + 1) 168 74 [some (.ref 0), some (.ref h), some (.int x2), some (.int x3), some (.int x4), some (.int x5), some (.int x6), some (.int x7), l8] [] v (stK σ ws (some none)) := by
        intro v x4 l8 tv fv av
        refine mjZ_y rfl rfl 3 _ _ _ _ tv ?_
        refine (And.intro (Nat.le_of_ble_eq_true rfl) (And.intro rfl (And.intro (Nat.le_of_ble_eq_true rfl) (And.intro (Nat.le_of_ble_eq_true rfl) (mjY_mono tv (fun q_ u2 ty2 h_ => ?_) (c_bad tv _))))))
        obtain ⟨rfl, f2⟩ := h_
        intro _
        refine mjZ_y rfl rfl 1 _ _ _ _ ty2 ?_
        refine And.intro rfl (And.intro (Or.inl rfl) ?_)
        exact ⟨fv.tr (f2.up (by decide) (by decide)), ⟨ws, av.fr f2 (by decide) (by decide) (by decide) (by decide)⟩, rfl⟩
      cases o with
      | none =>
        obtain ⟨rfl, f1⟩ := k1
        refine mjZ_y rfl rfl 1 _ _ _ _ ty1 ?_
        refine (And.intro (Nat.le_of_ble_eq_true rfl) ?_)
        refine mjZ_y rfl rfl 3 _ _ _ _ ty1 ?_
        refine And.intro (fun r => ?_) (fun r => ?_)
        · refine mjZ_y rfl rfl 3 _ _ _ _ ty1 ?_
          refine And.intro (fun s => ?_) (fun s => ?_)
          · exact bad74 u1 _ _ ty1 (f1.up (by decide) (by decide)) (ha.ar.fr f1 (by decide) (by decide) (by decide) (by decide))
          · exact absurd rfl s
        · exact absurd (show ¬ (-2 : Int32) = -1 by decide) r
      | some z =>
        obtain ⟨rfl, f1, eE, eV⟩ := k1
        rw [mz_z]
        have lz := lnF_le hln
        have a1 : ARr u1 rs ws := by
          obtain ⟨b1, b2, b3, b4, b5⟩ := ha
          refine ⟨by rw [f1.1 _ (by decide)]; exact b1, b2, by rw [f1.1 _ (by decide)]; exact b3, b4, ?_⟩
          rw [(f1.2.2 _ (by decide)).1, (f1.2.2 _ (by decide)).1, (f1.2.2 _ (by decide)).1]; exact b5
        have er : u1.2.2.1 h = σ.2.2.1 h := (f1.2.2 h (by simp)).1
        have fs1 : Fr stFs awH σ u1 := f1.up (by decide) (by decide)
        refine mjZ_y rfl rfl 1 _ _ _ _ ty1 ?_
        refine (And.intro (Nat.le_of_ble_eq_true rfl) ?_)
        refine mjZ_y rfl rfl 3 _ _ _ _ ty1 ?_
        refine And.intro (fun r => ?_) (fun r => ?_)
        rotate_left
        · exact absurd (show ¬ (1 : Int32) = -1 by decide) r
        refine mjZ_y rfl rfl 3 _ _ _ _ ty1 ?_
        refine And.intro (fun s => ?_) (fun s => ?_)
        · exact absurd (show (1 : Int32) = -2 from s) (by decide)
        refine mjZ_y rfl rfl 3 _ _ _ _ ty1 ?_
        refine (And.intro rfl (And.intro (fun m1 => ?_) (fun m1 => ?_)))
        · have m1 : z.1 < 0 := by rw [← eV]; exact m1
          rw [if_pos (Or.inl m1)]
          exact bad74 u1 _ _ ty1 fs1 a1.ar
        have m1 : ¬ z.1 < 0 := by rw [← eV]; exact m1
        refine mjZ_y rfl rfl 4 _ _ _ _ ty1 ?_
        refine (And.intro rfl (And.intro (fun m2 => ?_) (fun m2 => ?_)))
        rotate_left
        · have m2 : 16384 < z.1 := by rw [← eV]; exact Int32.not_le.mp m2
          rw [if_pos (Or.inr m2)]
          exact bad74 u1 _ _ ty1 fs1 a1.ar
        have m2 : ¬ 16384 < z.1 := by rw [← eV]; exact Int32.not_lt.mpr m2
        rw [if_neg (show ¬ (z.1 < 0 ∨ 16384 < z.1) from fun y => y.elim m1 m2)]
        obtain ⟨ez, hz31⟩ := i32_nn m1
        generalize hL : z.1.toNatClampNeg = L at ez hz31
        have hL16 : L ≤ 16384 := Nat.le_of_not_lt (fun y => m2 (show nI 16384 < z.1 by rw [ez]; exact Int32.not_le.mp (nI_ge y (by omega))))
        have eV2 : u1.1 f_lineNumber = nI L := eV.trans ez
        have hS2 := fun hb => hS' z hln m1 m2 hb
        rw [hL] at hS2
        refine mjZ_y rfl rfl 6 _ _ _ _ ty1 ?_
        refine (And.intro rfl (And.intro (Nat.le_of_ble_eq_true rfl) (And.intro rfl (And.intro (Nat.le_of_ble_eq_true rfl) ?_))))
        have go : ∀ (x8 x6' : Int32), x8 = nI L → x6' = nI z.2 → mjY mjPP (mjQQ Y) (d + 1) 168 84 [some (.ref 0), some (.ref h), some (.int x2), some (.int x3), some (.int (Int32.ofInt 1)), some (.int x5), some (.int x6'), some (.int x7), some (.int x8)] [] u1 (stK σ ws (if (z.2 + L < e ∧ ¬ (σ.2.2.1 h) (z.2 + L) = 13) ∨ (z.2 + L + 1 < e ∧ ¬ (σ.2.2.1 h) (z.2 + L + 1) = 10) then some none else if e < z.2 + L + 2 then none else mz (swdF (σ.2.2.1 h) e m (z.2 + L + 2)) (fun r => some (some (wd (σ.2.2.1 h) z.2 L :: r.1, r.2))))) := by
          intro x8 x6' e8 e6'
          have j0 : x6' + x8 = nI (z.2 + L) := by rw [e6', e8, nI_add]
          have j1 : x6' + x8 + Int32.ofInt 1 = nI (z.2 + L + 1) := by rw [j0]; exact nI_1 _
          have j2 : x6' + x8 + Int32.ofInt 2 = nI (z.2 + L + 2) := by rw [j0, show Int32.ofInt 2 = nI 2 from rfl, nI_add]
          have bad : ((z.2 + L < e ∧ ¬ (σ.2.2.1 h) (z.2 + L) = 13) ∨ (z.2 + L + 1 < e ∧ ¬ (σ.2.2.1 h) (z.2 + L + 1) = 10)) → ∀ o, mjY mjPP (mjQQ Y) (d + 1) 168 112 [some (.ref 0), some (.ref h), some (.int x2), some (.int x3), some (.int (Int32.ofInt 1)), some (.int x5), some (.int x6'), some (.int x7), some (.int x8)] [] u1 (stK σ ws (if (z.2 + L < e ∧ ¬ (σ.2.2.1 h) (z.2 + L) = 13) ∨ (z.2 + L + 1 < e ∧ ¬ (σ.2.2.1 h) (z.2 + L + 1) = 10) then some none else o)) := by
            intro y o
            rw [if_pos y]
            refine mjZ_y rfl rfl 3 _ _ _ _ ty1 ?_
            refine (And.intro (Nat.le_of_ble_eq_true rfl) (And.intro rfl (And.intro (Nat.le_of_ble_eq_true rfl) (And.intro (Nat.le_of_ble_eq_true rfl) (mjY_mono ty1 (fun q_ u2 ty2 h_ => ?_) (c_bad ty1 _))))))
            obtain ⟨rfl, f2⟩ := h_
            intro _
            refine mjZ_y rfl rfl 1 _ _ _ _ ty2 ?_
            refine And.intro rfl (And.intro (Or.inl rfl) ?_)
            exact ⟨fs1.tr (f2.up (by decide) (by decide)), ⟨ws, a1.ar.fr f2 (by decide) (by decide) (by decide) (by decide)⟩, rfl⟩
          have s96 : ¬ (z.2 + L < e ∧ ¬ (σ.2.2.1 h) (z.2 + L) = 13) → mjY mjPP (mjQQ Y) (d + 1) 168 96 [some (.ref 0), some (.ref h), some (.int x2), some (.int x3), some (.int (Int32.ofInt 1)), some (.int x5), some (.int x6'), some (.int x7), some (.int x8)] [] u1 (stK σ ws (if (z.2 + L < e ∧ ¬ (σ.2.2.1 h) (z.2 + L) = 13) ∨ (z.2 + L + 1 < e ∧ ¬ (σ.2.2.1 h) (z.2 + L + 1) = 10) then some none else if e < z.2 + L + 2 then none else mz (swdF (σ.2.2.1 h) e m (z.2 + L + 2)) (fun r => some (some (wd (σ.2.2.1 h) z.2 L :: r.1, r.2))))) := by
            intro n1
            have s116 : ¬ (z.2 + L + 1 < e ∧ ¬ (σ.2.2.1 h) (z.2 + L + 1) = 10) → mjY mjPP (mjQQ Y) (d + 1) 168 116 [some (.ref 0), some (.ref h), some (.int x2), some (.int x3), some (.int (Int32.ofInt 1)), some (.int x5), some (.int x6'), some (.int x7), some (.int x8)] [] u1 (stK σ ws (if (z.2 + L < e ∧ ¬ (σ.2.2.1 h) (z.2 + L) = 13) ∨ (z.2 + L + 1 < e ∧ ¬ (σ.2.2.1 h) (z.2 + L + 1) = 10) then some none else if e < z.2 + L + 2 then none else mz (swdF (σ.2.2.1 h) e m (z.2 + L + 2)) (fun r => some (some (wd (σ.2.2.1 h) z.2 L :: r.1, r.2))))) := by
              intro n2
              rw [if_neg (fun y => y.elim n1 n2)]
              refine mjZ_y rfl rfl 7 _ _ _ _ ty1 ?_
              refine And.intro (fun t => ?_) (fun t => ?_)
              rotate_left
              · have t : e < z.2 + L + 2 := Nat.lt_of_not_le (fun y => t (show x6' + x8 + Int32.ofInt 2 ≤ x3 by rw [j2, e3]; exact nI_le y (by omega)))
                rw [if_pos t]
                refine mjZ_y rfl rfl 2 _ _ _ _ ty1 ?_
                refine And.intro rfl (And.intro (Or.inl rfl) ?_)
                exact ⟨fs1, ⟨ws, a1.ar⟩, rfl⟩
              have t : z.2 + L + 2 ≤ e := Nat.le_of_not_lt (fun y => absurd (show x6' + x8 + Int32.ofInt 2 ≤ x3 from t) (by rw [j2, e3]; exact nI_ge y (by omega)))
              rw [if_neg (by omega)]
              obtain ⟨sl1, sl2⟩ := hS2 t
              have haw := c_addWord (Y := Y) (d := d) ty1 a1 (by omega) h z.2 L hh hn1 hn2 hn3 (by omega) (by omega) (by omega)
              rw [← e6', ← e8] at haw
              refine mjZ_y rfl rfl 5 _ _ _ _ ty1 ?_
              refine (And.intro (Nat.le_of_ble_eq_true rfl) (And.intro rfl (And.intro (Nat.le_of_ble_eq_true rfl) (And.intro (Nat.le_of_ble_eq_true rfl) (mjY_mono ty1 (fun q_ u2 ty2 h_ => ?_) (haw))))))
              obtain ⟨rfl, f2, a2⟩ := h_
              intro _
              refine mjZ_y rfl rfl 8 _ _ _ _ ty2 ?_
              refine (And.intro (Nat.le_of_ble_eq_true rfl) ?_)
              rw [er] at a2
              have er2 : u2.2.2.1 h = σ.2.2.1 h := by rw [(f2.2.2 h (by simp [awH, hn1, hn2, hn3])).1]; exact er
              have fs2 : Fr stFs awH σ u2 := fs1.tr (f2.up (by decide) (by decide))
              refine mjY_mono ty2 (fun r u tu k => ?_) (ih (z.2 + L + 2) (rs + L) (ws ++ [wd (σ.2.2.1 h) z.2 L]) u2 _ _ _ _ ?_ t ?_ ?_ ty2 a2 (by rw [er2]; exact sl2))
              · rw [er2] at k
                obtain ⟨k1, k2, k3⟩ := k
                refine ⟨fs2.tr k1, k2, ?_⟩
                cases hst : swdF (σ.2.2.1 h) e m (z.2 + L + 2) with
                | none => rw [hst] at k3; exact k3
                | some o =>
                  rw [hst] at k3
                  cases o with
                  | none => exact k3
                  | some y =>
                    refine ⟨k3.1, ?_⟩
                    have := k3.2
                    rw [List.append_assoc] at this; exact this
              · show x6' + (x8 + Int32.ofInt 2) = _
                rw [e6', e8, show Int32.ofInt 2 = nI 2 from rfl, nI_add, nI_add]; exact congrArg nI (by omega)
              · rw [e7, List.length_append]; exact nI_1 _
              · rw [List.length_append]; show ws.length + 1 + m = N; omega
            refine mjZ_y rfl rfl 7 _ _ _ _ ty1 ?_
            refine And.intro (fun t => ?_) (fun t => ?_)
            · exact s116 (fun y => absurd (show x3 ≤ x6' + x8 + Int32.ofInt 1 from t) (by rw [j1, e3]; exact nI_ge y.1 (by omega)))
            · have t : z.2 + L + 1 < e := Nat.lt_of_not_le (fun y => t (show x3 ≤ x6' + x8 + Int32.ofInt 1 by rw [j1, e3]; exact nI_le y (by omega)))
              have cj : (x6' + x8 + Int32.ofInt 1).toNatClampNeg = z.2 + L + 1 := by rw [j1]; exact nI_clamp (by omega)
              refine mjZ_y rfl rfl 9 _ _ _ _ ty1 ?_
              refine (And.intro (Or.inl hh) (And.intro (show vp_in (x6' + x8 + Int32.ofInt 1) (mjLn h) by rw [j1]; exact vp_in_nI (by omega) (by omega)) (And.intro (fun y => ?_) (fun y => ?_))))
              · have y : u1.2.2.1 h (x6' + x8 + Int32.ofInt 1).toNatClampNeg = (Int8.ofInt 10).toInt32 := y
                rw [cj, er] at y
                exact s116 (fun w => w.2 y)
              · have y : ¬ (σ.2.2.1 h) (z.2 + L + 1) = 10 := fun w => y (show u1.2.2.1 h (x6' + x8 + Int32.ofInt 1).toNatClampNeg = (Int8.ofInt 10).toInt32 by rw [cj, er]; exact w)
                exact bad (Or.inr ⟨t, y⟩) _
          refine mjZ_y rfl rfl 5 _ _ _ _ ty1 ?_
          refine And.intro (fun t => ?_) (fun t => ?_)
          · exact s96 (fun y => absurd (show x3 ≤ x6' + x8 from t) (by rw [j0, e3]; exact nI_ge y.1 (by omega)))
          · have t : z.2 + L < e := Nat.lt_of_not_le (fun y => t (show x3 ≤ x6' + x8 by rw [j0, e3]; exact nI_le y (by omega)))
            have cj : (x6' + x8).toNatClampNeg = z.2 + L := by rw [j0]; exact nI_clamp (by omega)
            refine mjZ_y rfl rfl 7 _ _ _ _ ty1 ?_
            refine (And.intro (Or.inl hh) (And.intro (show vp_in (x6' + x8) (mjLn h) by rw [j0]; exact vp_in_nI (by omega) (by omega)) (And.intro (fun y => ?_) (fun y => ?_))))
            · have y : ¬ (σ.2.2.1 h) (z.2 + L) = 13 := fun w => y (show u1.2.2.1 h (x6' + x8).toNatClampNeg = (Int8.ofInt 13).toInt32 by rw [cj, er]; exact w)
              exact bad (Or.inl ⟨t, y⟩) _
            · have y : u1.2.2.1 h (x6' + x8).toNatClampNeg = (Int8.ofInt 13).toInt32 := Decidable.of_not_not y
              rw [cj, er] at y
              exact s96 (fun w => w.2 y)
        exact go _ _ eV2 eE
set_option maxRecDepth 100000 in
theorem c_starAt {σ : mjS} (ty : mjTY σ) (h p e : Nat) (hh : mjKd h = 1) (hn1 : h ≠ r_req) (hn2 : h ≠ r_aAt) (hn3 : h ≠ r_aLen) (he : e ≤ mjLn h) (hl : mjLn h < 2 ^ 29) (hp : p < e) (hS : ∀ z, lnF (σ.2.2.1 h) p e = some (some z) → ¬ 1024 < z.1 → SLK (σ.2.2.1 h) e (if z.1 < 0 then 0 else z.1.toNatClampNeg) z.2 0) {x2 x3 : Int32} (e2 : x2 = nI p) (e3 : x3 = nI e) : mjY mjPP (mjQQ Y) (d + 1) 168 0 (mjL0 9 [.ref 0, .ref h, .int x2, .int x3]) [] σ (stK σ [] (starF (σ.2.2.1 h) p e)) := by
  refine mjZ_y rfl rfl 6 _ _ _ _ ty ?_
  refine (And.intro rfl (And.intro (Or.inl rfl) (fun ty' => (And.intro rfl (And.intro (Or.inl rfl) (fun ty'' => ?_))))))
  have go : ∀ u : mjS, mjTY u → u = (upd (upd σ.1 f_words 0) f_reqSize 0, σ.2) → mjY mjPP (mjQQ Y) (d + 1) 168 6 [some (.ref 0), some (.ref h), some (.int x2), some (.int x3), none, none, none, none, none] [] u (stK σ [] (starF (σ.2.2.1 h) p e)) := by
    intro u tu eu
    have fu : Fr dqF [] σ u := by rw [eu]; exact (Fr.i (by decide)).tr (Fr.i (by decide))
    have er : u.2.2.1 h = σ.2.2.1 h := by rw [eu]
    have a0 : ARr u 0 [] := by
      refine ARr_0 (σ := σ) ?_ ?_
      · rw [eu]; show upd (upd σ.1 f_words 0) f_reqSize 0 f_words = _; rw [pk_un (by decide)]; exact pk_us (f := σ.1) (k := f_words) (x := 0)
      · rw [eu]; exact pk_us (f := upd σ.1 f_words 0) (k := f_reqSize) (x := 0)
    have fsu : Fr stFs awH σ u := fu.up (by decide) (by decide)
    have ln := c_lineAt (Y := Y) (d := d) tu h p e hh he hl hp e2 e3
    rw [er] at ln
    unfold starF
    refine mjZ_y rfl rfl 5 _ _ _ _ tu ?_
    refine (And.intro (Nat.le_of_ble_eq_true rfl) (And.intro rfl (And.intro (Nat.le_of_ble_eq_true rfl) (And.intro (Nat.le_of_ble_eq_true rfl) (mjY_mono tu (fun q_ u1 ty1 h_ => ?_) (ln))))))
    have k1 := h_
    intro _
    unfold lnK at k1
    have bad24 : ∀ v (x4 : Int32), mjTY v → Fr stFs awH σ v → AR v [] → mjY mjPP (mjQQ Y) (d + 1) 168 24 [some (.ref 0), some (.ref h), some (.int x2), some (.int x3), some (.int x4), none, none, none, none] [] v (stK σ [] (some none)) := by
      intro v x4 tv fv av
      refine mjZ_y rfl rfl 3 _ _ _ _ tv ?_
      refine (And.intro (Nat.le_of_ble_eq_true rfl) (And.intro rfl (And.intro (Nat.le_of_ble_eq_true rfl) (And.intro (Nat.le_of_ble_eq_true rfl) (mjY_mono tv (fun q_ u2 ty2 h_ => ?_) (c_bad tv _))))))
      obtain ⟨rfl, f2⟩ := h_
      intro _
      refine mjZ_y rfl rfl 1 _ _ _ _ ty2 ?_
      refine And.intro rfl (And.intro (Or.inl rfl) ?_)
      exact ⟨fv.tr (f2.up (by decide) (by decide)), ⟨[], av.fr f2 (by decide) (by decide) (by decide) (by decide)⟩, rfl⟩
    cases hln : lnF (σ.2.2.1 h) p e with
    | none =>
      rw [hln] at k1
      obtain ⟨rfl, rfl⟩ := k1
      refine mjZ_y rfl rfl 1 _ _ _ _ ty1 ?_
      refine (And.intro (Nat.le_of_ble_eq_true rfl) ?_)
      refine mjZ_y rfl rfl 3 _ _ _ _ ty1 ?_
      refine And.intro (fun r => ?_) (fun r => ?_)
      · exact absurd rfl r
      · refine mjZ_y rfl rfl 2 _ _ _ _ ty1 ?_
        refine And.intro rfl (And.intro (Or.inl rfl) ?_)
        exact ⟨fsu, ⟨[], a0.ar⟩, rfl⟩
    | some o =>
      rw [hln] at k1
      cases o with
      | none =>
        obtain ⟨rfl, f1⟩ := k1
        refine mjZ_y rfl rfl 1 _ _ _ _ ty1 ?_
        refine (And.intro (Nat.le_of_ble_eq_true rfl) ?_)
        refine mjZ_y rfl rfl 3 _ _ _ _ ty1 ?_
        refine And.intro (fun r => ?_) (fun r => ?_)
        · refine mjZ_y rfl rfl 3 _ _ _ _ ty1 ?_
          refine And.intro (fun s => ?_) (fun s => ?_)
          · exact bad24 u1 _ ty1 (fsu.tr (f1.up (by decide) (by decide))) (a0.ar.fr f1 (by decide) (by decide) (by decide) (by decide))
          · exact absurd rfl s
        · exact absurd (show ¬ (-2 : Int32) = -1 by decide) r
      | some z =>
        obtain ⟨rfl, f1, eE, eV⟩ := k1
        rw [mz_z]
        have lz := lnF_le hln
        have a1 : ARr u1 0 [] := by
          obtain ⟨b1, b2, b3, b4, b5⟩ := a0
          refine ⟨by rw [f1.1 _ (by decide)]; exact b1, b2, by rw [f1.1 _ (by decide)]; exact b3, b4, ?_⟩
          rw [(f1.2.2 _ (by decide)).1, (f1.2.2 _ (by decide)).1, (f1.2.2 _ (by decide)).1]; exact b5
        have er1 : u1.2.2.1 h = σ.2.2.1 h := by rw [(f1.2.2 h (by simp)).1]; exact er
        have fs1 : Fr stFs awH σ u1 := fsu.tr (f1.up (by decide) (by decide))
        refine mjZ_y rfl rfl 1 _ _ _ _ ty1 ?_
        refine (And.intro (Nat.le_of_ble_eq_true rfl) ?_)
        refine mjZ_y rfl rfl 3 _ _ _ _ ty1 ?_
        refine And.intro (fun r => ?_) (fun r => ?_)
        rotate_left
        · exact absurd (show ¬ (1 : Int32) = -1 by decide) r
        refine mjZ_y rfl rfl 3 _ _ _ _ ty1 ?_
        refine And.intro (fun s => ?_) (fun s => ?_)
        · exact absurd (show (1 : Int32) = -2 from s) (by decide)
        refine mjZ_y rfl rfl 4 _ _ _ _ ty1 ?_
        refine (And.intro rfl (And.intro (fun m => ?_) (fun m => ?_)))
        rotate_left
        · have m : 1024 < z.1 := by rw [← eV]; exact Int32.not_le.mp m
          rw [if_pos m]
          exact bad24 u1 _ ty1 fs1 a1.ar
        have m : ¬ 1024 < z.1 := by rw [← eV]; exact Int32.not_lt.mpr m
        rw [if_neg m]
        have hs := hS z hln m
        refine mjZ_y rfl rfl 8 _ _ _ _ ty1 ?_
        refine (And.intro rfl (And.intro (Nat.le_of_ble_eq_true rfl) (And.intro rfl (And.intro (Nat.le_of_ble_eq_true rfl) (And.intro (Nat.le_of_ble_eq_true rfl) ?_)))))
        by_cases neg : z.1 < 0
        · rw [if_pos neg] at hs ⊢
          show mjY mjPP (mjQQ Y) (d + 1) 168 36 [some (.ref 0), some (.ref h), some (.int x2), some (.int x3), some (.int (Int32.ofInt 1)), some (.int (u1.1 f_lineNumber)), some (.int (u1.1 f_lineEnd)), some (.int (Int32.ofInt 0)), none] [] u1 _
          refine mjZ_y rfl rfl 3 _ _ _ _ ty1 ?_
          refine And.intro (fun t => ?_) (fun t => ?_)
          · refine mjZ_y rfl rfl 2 _ _ _ _ ty1 ?_
            refine And.intro rfl (And.intro (Or.inl rfl) ?_)
            exact ⟨fs1, ⟨[], a1.ar⟩, by rw [eE], a1.ar⟩
          · exact absurd (show u1.1 f_lineNumber ≤ Int32.ofInt 0 by rw [eV]; exact Int32.le_of_lt neg) t
        · rw [if_neg neg] at hs ⊢
          obtain ⟨ez, hz31⟩ := i32_nn neg
          generalize hL : z.1.toNatClampNeg = L at ez hz31 hs
          have hL16 : L ≤ 1024 := Nat.le_of_not_lt (fun y => m (show nI 1024 < z.1 by rw [ez]; exact Int32.not_le.mp (nI_ge y (by omega))))
          refine mjY_mono ty1 (fun r u tu k => ?_) (c_star_loop h e hh hn1 hn2 hn3 he hl x2 x3 (u1.1 f_lineNumber) e3 L hL16 (eV.trans ez) L z.2 0 [] u1 _ (u1.1 f_lineEnd) _ _ eE lz.2 rfl (by simp) ty1 a1 (by rw [er1]; exact hs))
          rw [er1] at k
          exact ⟨fs1.tr k.1, k.2⟩
  exact go _ ty'' rfl
end STAR
