/-! sets, SET and its like. -/
section SETS
variable {Y : Nat → MethodName × ByteArray} {d : Nat}
def tmF (keep timed : Int32) (t : Int64) (a : AK) : AK := (a.1, a.2.1, if timed = 0 then (if keep = 0 then 0 else a.2.2.1) else 1, if timed = 0 then (if keep = 0 then 0 else a.2.2.2.1) else t, a.2.2.2.2.1, a.2.2.2.2.2)
def stA (A : List AK) (w v : List Int32) (keep timed : Int32) (t : Int64) : List AK := upA (setA A w v) (orA A w 0).2 (tmF keep timed t)
/-- the time is over -/
abbrev deadP (σ : mjS) : Prop := (¬ σ.1 f_timed = 0) ∧ σ.2.1 f_time ≤ σ.2.1 f_now0 ∧ σ.1 f_replays = 0
def setR (σ : mjS) (A : List AK) (w v : List Int32) : List AK := if deadP σ then (match kyI A w with | some p => rmA A p | none => A) else stA A w v (σ.1 f_optKeep) (σ.1 f_timed) (σ.2.1 f_time)
def setL (σ : mjS) (l : List Int32) (A : List AK) (w v : List Int32) : List Int32 := if deadP σ then (match kyI A w with | some _ => ntG σ l w | none => l) else ntS σ l w v (σ.1 f_optKeep) (σ.1 f_timed) (if σ.1 f_timed = 0 then 0 else σ.2.1 f_time)
theorem nsT_0 {keep timed : Int32} (h : timed = 0) (t t' : Int64) : nsT keep timed t = nsT keep timed t' := by unfold nsT; rw [if_pos h, if_pos h]
theorem ntS_0 {σ : mjS} {l w v : List Int32} {keep timed : Int32} (h : timed = 0) (t t' : Int64) : ntS σ l w v keep timed t = ntS σ l w v keep timed t' := by unfold ntS; rw [nsT_0 h t t']
theorem upA_upA (A : List AK) (p : Nat) (f g : AK → AK) : upA (upA A p f) p g = upA A p (fun a => g (f a)) := by
  induction A generalizing p with
  | nil => rfl
  | cons a r ih =>
    cases p with
    | zero => rfl
    | succ p => show a :: upA (upA r p f) p g = a :: upA r p _; rw [ih]
abbrev setF : List Nat := [f_heapSize, f_keys, f_kFrees, f_eFree, f_pendingSize, f_digitsSize]
abbrev setH : List Nat := r_disturbed :: r_pending :: r_digits :: r_spelt :: kH
theorem Fr.sc {σ u : mjS} (f : Fr setF setH σ u) : Fr cF cH σ u := f.up (by decide) (by decide)
set_option maxRecDepth 100000 in
theorem c_sets_n (K : mjK) {σ u0 : mjS} {ws : List (List Int32)} {P Q : List KR} {y : KR} {l : List Int32} (h : Wd σ ws (P ++ y :: Q) l) (ty : mjTY σ) {w v : List Int32} {j : Nat} (h1 : ws[1]? = some w) (hj : ws[j]? = some v) (x1 x2 x3 : Int32) (e1 : x1 = nI j) (e3 : x3 = nI y.1) (hl : l.length + w.length + v.length + 400 ≤ 420000) (f0 : Fr setF setH u0 σ) (nd : ¬ deadP u0) (et : ¬ u0.1 f_timed = 0 → y.2.2.2.2.1 = u0.2.1 f_time)
    (hK : ∀ u, Fr setF setH u0 u → Wd u ws (P ++ y :: Q) (ntS u0 l w v (u0.1 f_optKeep) (u0.1 f_timed) (if u0.1 f_timed = 0 then 0 else u0.2.1 f_time)) → K none u) :
    mjY mjPP (mjQQ Y) (d + 6) 80 52 [some (.ref 0), some (.int x1), some (.int x2), some (.int x3)] [] σ K := by
  have hid := h.id
  obtain ⟨hs, hh, hk⟩ := h.kok (List.mem_append_right P (List.mem_cons_self (a := y) (l := Q)))
  refine mjZ_y rfl rfl 4 _ _ _ _ ty ?_
  refine (And.intro (Nat.le_of_ble_eq_true rfl) (And.intro rfl (And.intro (Nat.le_of_ble_eq_true rfl) (And.intro (Nat.le_of_ble_eq_true rfl) (mjY_mono ty (fun q_ u1 ty1 h_ => ?_) (w_noteSet h ty h1 hj e1 y.1 e3 hid hl))))))
  obtain ⟨rfl, f1, h2⟩ := h_
  intro _
  refine mjZ_y rfl rfl 1 _ _ _ _ ty1 ?_
  refine And.intro rfl (And.intro rfl ?_)
  refine hK u1 (f0.tr (f1.up (by decide) (by decide))) ?_
  have fc := f0.sc
  rw [ntS_fr fc, f0.1 f_optKeep (by decide), f0.1 f_timed (by decide), hk.2.2.2.2.1] at h2
  by_cases c : u0.1 f_timed = 0
  · rw [ntS_0 c _ (if u0.1 f_timed = 0 then 0 else u0.2.1 f_time)] at h2; exact h2
  · rw [if_neg c]; rw [et c] at h2; exact h2
set_option maxRecDepth 100000 in
theorem c_sets_t (K : mjK) {σ u0 : mjS} {ws : List (List Int32)} {P Q : List KR} {y : KR} {l : List Int32} (h : Wd σ ws (P ++ y :: Q) l) (ty : mjTY σ) {w v : List Int32} {j : Nat} (h1 : ws[1]? = some w) (hj : ws[j]? = some v) (x1 x2 x3 : Int32) (e1 : x1 = nI j) (e3 : x3 = nI y.1) (hl : l.length + w.length + v.length + 400 ≤ 420000) (f0 : Fr setF setH u0 σ) (nd : ¬ deadP u0)
    (hK : ∀ u z, Fr setF setH u0 u → st1 z = (y.2.1, y.2.2.1, if u0.1 f_timed = 0 then y.2.2.2.1 else 1, if u0.1 f_timed = 0 then tmN y.2.2.2.1 y.2.2.2.2.1 else u0.2.1 f_time, y.2.2.2.2.2.1, y.2.2.2.2.2.2.map (fun y => y.2)) → Wd u ws (P ++ z :: Q) (ntS u0 l w v (u0.1 f_optKeep) (u0.1 f_timed) (if u0.1 f_timed = 0 then 0 else u0.2.1 f_time)) → K none u) :
    mjY mjPP (mjQQ Y) (d + 6) 80 38 [some (.ref 0), some (.int x1), some (.int x2), some (.int x3)] [] σ K := by
  have hid := h.id
  have v3 : vp_in x3 4700 := by rw [e3]; exact vp_in_nI hid (by decide)
  have c3 : x3.toNatClampNeg = y.1 := by rw [e3]; exact nI_clamp (by omega)
  refine mjZ_y rfl rfl 3 _ _ _ _ ty ?_
  refine (And.intro rfl (And.intro (fun q => ?_) (fun q => ?_)))
  · have q : u0.1 f_timed = 0 := (f0.1 f_timed (by decide)).symm.trans q
    refine c_sets_n K h ty h1 hj x1 x2 x3 e1 e3 hl f0 nd (fun c => absurd q c) (fun u fu hu => hK u y fu ?_ hu)
    rw [if_pos q, if_pos q]; rfl
  · have q : ¬ u0.1 f_timed = 0 := fun c => q ((f0.1 f_timed (by decide)).trans c)
    refine mjZ_y rfl rfl 11 _ _ _ _ ty ?_
    refine (And.intro rfl (And.intro (Or.inr ⟨rfl, Or.inr rfl⟩) (And.intro v3 (fun ty' => (And.intro rfl (And.intro rfl (And.intro rfl (And.intro v3 (fun ty'' => ?_)))))))))
    have h2 := h.timed c3 1
    have h3 := h2.time (x := (y.1, y.2.1, y.2.2.1, 1, y.2.2.2.2.1, y.2.2.2.2.2.1, y.2.2.2.2.2.2)) c3 (σ.2.1 f_time)
    have f1 : Fr setF setH σ (σ.1, σ.2.1, mjIu σ.2.2.1 r_kTimed x3.toNatClampNeg 1, mjLu σ.2.2.2 r_kTime x3.toNatClampNeg (σ.2.1 f_time)) := (Fr.a (h := r_kTimed) (by decide)).tr (Fr.j (h := r_kTime) (by decide))
    have eT : σ.2.1 f_time = u0.2.1 f_time := f0.2.1 _ (by decide)
    refine c_sets_n (u0 := u0) K h3 ty'' h1 hj x1 x2 x3 e1 e3 hl (f0.tr f1) nd (fun _ => eT) (fun u fu hu => hK u _ fu ?_ hu)
    rw [if_neg q, if_neg q, ← eT]; rfl
set_option maxRecDepth 100000 in
theorem c_sets_s (K : mjK) {σ : mjS} {ws : List (List Int32)} {ks : List KR} {l : List Int32} (h : Wd σ ws ks l) (ty : mjTY σ) {w v : List Int32} {j : Nat} (h1 : ws[1]? = some w) (hj : ws[j]? = some v) (x1 x2 : Int32) (e1 : x1 = nI j) (ht : tT (strip ks) + w.length ≤ 200000) (hn : tT (strip ks) + w.length + v.length ≤ 300000) (hk : ks.length < 4700) (hl : l.length + w.length + v.length + 400 ≤ 420000) (nd : ¬ deadP σ)
    (hK : ∀ u ks', Fr setF setH σ u → Wd u ws ks' (setL σ l (strip ks) w v) → strip ks' = setR σ (strip ks) w v → K none u) :
    mjY mjPP (mjQQ Y) (d + 6) 80 25 [some (.ref 0), some (.int x1), some (.int x2), none] [] σ K := by
  have eL : setL σ l (strip ks) w v = ntS σ l w v (σ.1 f_optKeep) (σ.1 f_timed) (if σ.1 f_timed = 0 then 0 else σ.2.1 f_time) := if_neg nd
  have eR : setR σ (strip ks) w v = stA (strip ks) w v (σ.1 f_optKeep) (σ.1 f_timed) (σ.2.1 f_time) := if_neg nd
  refine mjZ_y rfl rfl 4 _ _ _ _ ty ?_
  refine (And.intro (Nat.le_of_ble_eq_true rfl) (And.intro rfl (And.intro (Nat.le_of_ble_eq_true rfl) (And.intro (Nat.le_of_ble_eq_true rfl) (mjY_mono ty (fun q_ u1 ty1 h_ => ?_) (w_setText h ty h1 hj (x1 := Int32.ofInt 1) rfl e1 ht hn hk))))))
  obtain ⟨P, y, Q, rfl, h2, f2, g1, g2⟩ := h_
  intro _
  have f0 : Fr setF setH σ u1 := f2.up (by decide) (by decide)
  have hid := h2.id
  have v3 : vp_in (nI y.1) 4700 := vp_in_nI hid (by decide)
  have c3 : (nI y.1).toNatClampNeg = y.1 := nI_clamp (by omega)
  refine mjZ_y rfl rfl 4 _ _ _ _ ty1 ?_
  refine (And.intro (Nat.le_of_ble_eq_true rfl) (And.intro rfl (And.intro (fun q => ?_) (fun q => ?_))))
  · have q : ¬ σ.1 f_optKeep = 0 := fun c => q ((f0.1 f_optKeep (by decide)).trans c)
    refine c_sets_t (u0 := σ) K h2 ty1 h1 hj x1 x2 _ e1 rfl hl f0 nd (fun u z fu ez hu => hK u _ fu (by rw [eL]; exact hu) ?_)
    rw [eR]; unfold stA; rw [← g1, ← g2]
    refine strip_up ?_
    rw [ez]; unfold tmF; rw [if_neg q, if_neg q]; rfl
  · have q : σ.1 f_optKeep = 0 := (f0.1 f_optKeep (by decide)).symm.trans (Decidable.of_not_not q)
    refine mjZ_y rfl rfl 5 _ _ _ _ ty1 ?_
    refine (And.intro rfl (And.intro (Or.inr ⟨rfl, Or.inl rfl⟩) (And.intro v3 (fun ty1' => ?_))))
    have h3 := h2.timed c3 0
    have f1 : Fr setF setH u1 (u1.1, u1.2.1, mjIu u1.2.2.1 r_kTimed (nI y.1).toNatClampNeg 0, u1.2.2.2) := Fr.a (h := r_kTimed) (by decide)
    refine c_sets_t (u0 := σ) K h3 ty1' h1 hj x1 x2 _ e1 rfl hl (f0.tr f1) nd (fun u z fu ez hu => hK u _ fu (by rw [eL]; exact hu) ?_)
    rw [eR]; unfold stA; rw [← g1, ← g2]
    refine strip_up ?_
    rw [ez]; unfold tmF; rw [if_pos q, if_pos q]; rfl
set_option maxRecDepth 100000 in
theorem w_sets {σ : mjS} {ws : List (List Int32)} {ks : List KR} {l : List Int32} (h : Wd σ ws ks l) (ty : mjTY σ) {w v : List Int32} {j : Nat} (h1 : ws[1]? = some w) (hj : ws[j]? = some v) {x1 : Int32} (e1 : x1 = nI j) (ht : tT (strip ks) + w.length ≤ 200000) (hn : tT (strip ks) + w.length + v.length ≤ 300000) (hk : ks.length < 4700) (hl : l.length + w.length + v.length + 400 ≤ 420000) :
    mjY mjPP (mjQQ Y) (d + 6) 80 0 (mjL0 4 [.ref 0, .int x1]) [] σ (fun r u => r = none ∧ Fr setF setH σ u ∧ ∃ ks', Wd u ws ks' (setL σ l (strip ks) w v) ∧ strip ks' = setR σ (strip ks) w v) := by
  have alive : ∀ x2 : Int32, ¬ deadP σ → mjY mjPP (mjQQ Y) (d + 6) 80 25 [some (.ref 0), some (.int x1), some (.int x2), none] [] σ (fun r u => r = none ∧ Fr setF setH σ u ∧ ∃ ks', Wd u ws ks' (setL σ l (strip ks) w v) ∧ strip ks' = setR σ (strip ks) w v) := fun x2 nd => c_sets_s _ h ty h1 hj x1 x2 e1 ht hn hk hl nd (fun u ks' fu hu eu => ⟨rfl, fu, ks', hu, eu⟩)
  refine mjZ_y rfl rfl 3 _ _ _ _ ty ?_
  refine (And.intro (Nat.le_of_ble_eq_true rfl) (And.intro rfl (And.intro (Nat.le_of_ble_eq_true rfl) (And.intro (Nat.le_of_ble_eq_true rfl) (mjY_mono ty (fun q_ u1 ty1 h_ => ?_) (w_key h ty h1 (x := Int32.ofInt 1) rfl))))))
  obtain ⟨rfl, rfl⟩ := h_
  intro _
  refine mjZ_y rfl rfl 4 _ _ _ _ ty1 ?_
  refine (And.intro (Nat.le_of_ble_eq_true rfl) (And.intro rfl (And.intro (fun q => ?_) (fun q => ?_))))
  · exact alive _ (fun c => c.1 q)
  · refine mjZ_y rfl rfl 6 _ _ _ _ ty1 ?_
    refine (And.intro rfl (And.intro rfl (And.intro (fun c => ?_) (fun c => ?_))))
    · exact alive _ (fun z => Int64.not_lt.mpr z.2.1 ((lg_cmp_gt _ _).mp c))
    · have c : u1.2.1 f_time ≤ u1.2.1 f_now0 := Int64.not_lt.mp (fun z => c ((lg_cmp_gt _ _).mpr z))
      refine mjZ_y rfl rfl 3 _ _ _ _ ty1 ?_
      refine (And.intro rfl (And.intro (fun r => ?_) (fun r => ?_)))
      · exact alive _ (fun z => r z.2.2)
      · have r : u1.1 f_replays = 0 := Decidable.of_not_not r
        have dd : deadP u1 := ⟨q, c, r⟩
        have eL : setL u1 l (strip ks) w v = (match kyI (strip ks) w with | some _ => ntG u1 l w | none => l) := if_pos dd
        have eR : setR u1 (strip ks) w v = (match kyI (strip ks) w with | some p => rmA (strip ks) p | none => strip ks) := if_pos dd
        rw [eL, eR]
        refine mjZ_y rfl rfl 2 _ _ _ _ ty1 ?_
        refine And.intro (fun s => ?_) (fun s => ?_)
        · rcases ky_cases ks w with ⟨g1, g2⟩ | ⟨P, y, Q, g0, g1, g2, -⟩
          · rw [g1]
            refine mjZ_y rfl rfl 1 _ _ _ _ ty1 ?_
            refine And.intro rfl (And.intro rfl ?_)
            exact ⟨rfl, Fr.rf, ks, h, rfl⟩
          · subst g0
            exact absurd (show kyS (P ++ y :: Q) w < 0 from s) (lt_nI (by have := h.id; omega) g2)
        · rcases ky_cases ks w with ⟨g1, g2⟩ | ⟨P, y, Q, g0, g1, g2, -⟩
          · exact absurd (lt_m1 g2) s
          · subst g0
            rw [g1]
            refine mjZ_y rfl rfl 3 _ _ _ _ ty1 ?_
            refine (And.intro (Nat.le_of_ble_eq_true rfl) (And.intro rfl (And.intro (Nat.le_of_ble_eq_true rfl) (And.intro (Nat.le_of_ble_eq_true rfl) (mjY_mono ty1 (fun q_ u2 ty2 h_ => ?_) (w_goneKey h ty1 g2))))))
            obtain ⟨rfl, h2, f2⟩ := h_
            intro _
            refine mjZ_y rfl rfl 3 _ _ _ _ ty2 ?_
            refine (And.intro (Nat.le_of_ble_eq_true rfl) (And.intro rfl (And.intro (Nat.le_of_ble_eq_true rfl) (And.intro (Nat.le_of_ble_eq_true rfl) (mjY_mono ty2 (fun q_ u3 ty3 h_ => ?_) (w_noteGone h2 ty2 h1 (x := Int32.ofInt 1) rfl (by omega)))))))
            obtain ⟨rfl, h3, f3⟩ := h_
            intro _
            refine mjZ_y rfl rfl 1 _ _ _ _ ty3 ?_
            refine And.intro rfl (And.intro rfl ?_)
            rw [ntG_fr f2.k1] at h3
            exact ⟨rfl, (f2.up (by decide) (by decide)).tr (f3.up (by decide) (by decide)), _, h3, strip_rm⟩
end SETS
