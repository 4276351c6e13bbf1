/-! Commands and their functions: those that look at the clock. -/
set_option maxRecDepth 20000
section KJTIME
variable {Y : Nat → MethodName × ByteArray} {d : Nat} {σ u : kS} {B ws nmm : List (List Int32)} {ks : List KC}
theorem nm_22 : nm 22 = tb 7 := by decide +kernel
theorem nm_33 : nm 33 = tb 6 := by decide +kernel
theorem nm_2 : nm 2 = tb 9 := by decide +kernel
theorem tbK_ : tb 10 = kTT := by decide +kernel
theorem tbP_ : tb 11 = pXT := by decide +kernel
theorem nev_lat : LAT < NEV := by decide
theorem upA_ef {f g : AK → AK} {A : List AK} {p : Nat} {a : AK} (ha : A[p]? = some a) (hf : f a = g a) : upA A p f = upA A p g := by
  refine List.ext_getElem? (fun i => ?_)
  rw [upA_get, upA_get]
  by_cases c : i = p
  · rw [if_pos c, if_pos c, c, ha]; show some (f a) = some (g a); rw [hf]
  · rw [if_neg c, if_neg c]
theorem or_at {A : List AK} {w : List Int32} (hA : IA A) (hw : WOK w) : ∃ a, (orA A w 0).1[(orA A w 0).2]? = some a ∧ a.1 = w ∧ (kyI A w = none → a = (w, 0, 0, 0, [], [])) ∧ ∀ p, kyI A w = some p → A[p]? = some a := by
  cases h : kyI A w with
  | some p =>
    rw [orA_some h]
    obtain ⟨a, h1, h2⟩ := kyI_get h
    exact ⟨a, h1, cmpW_eq _ _ (hA.2 a (List.mem_of_getElem? h1)).1.2 hw.2 h2, (fun z => by cases z), (fun q z => by cases z; exact h1)⟩
  | none =>
    rw [orA_none h]
    refine ⟨(w, 0, 0, 0, [], []), ?_, rfl, fun _ => rfl, fun q z => by cases z⟩
    have hp := plF_le (anm A) w
    rw [anm_len] at hp
    show (inA A (plF (anm A) w) (w, 0, 0, 0, [], []))[plF (anm A) w]? = _
    unfold inA
    have := gtA (A.take (plF (anm A) w)) (w, 0, 0, 0, [], []) (A.drop (plF (anm A) w))
    rw [List.length_take, Nat.min_eq_left hp] at this; exact this
/-- the time that a text gets -/
def PUR (A : List AK) (v : List Int32) (keep timed : Int32) (t0 t : Int64) : Prop := (keep = 0 ∧ timed = 0 ∧ t = NEV) ∨ (keep = 0 ∧ timed = 1 ∧ t = t0 ∧ t ≤ LAT) ∨ (keep = 1 ∧ timed = 0 ∧ ((kyI A v = none ∧ t = NEV) ∨ ∃ p b, kyI A v = some p ∧ A[p]? = some b ∧ t = endE b ∧ TOK b.2.2.1 b.2.2.2.1))
theorem lat_ne {t : Int64} (h : t ≤ LAT) : ¬ t = NEV := fun z => by rw [z] at h; exact absurd h (by decide)
theorem pu_A {A : List AK} {v a : List Int32} {keep timed : Int32} {t0 t : Int64} (hA : IA A) (hw : WOK v) (h : PUR A v keep timed t0 t) : upA (orA A v 0).1 (orA A v 0).2 (fun _ => akT v a t) = stA A v a keep timed t0 := by
  unfold stA setA
  rw [upA_upA]
  obtain ⟨b, hb, b1, b2, b3⟩ := or_at (w := v) hA hw
  refine upA_ef hb ?_
  show akT v a t = tmF keep timed t0 (b.1, 0, b.2.2.1, b.2.2.2.1, a, [])
  unfold akT tmF
  rcases h with ⟨rfl, rfl, rfl⟩ | ⟨rfl, rfl, rfl, h4⟩ | ⟨rfl, rfl, h⟩
  · rw [b1, if_pos rfl, if_pos rfl, if_pos rfl, if_pos rfl, if_pos rfl, if_pos rfl]
  · rw [if_neg (lat_ne h4), if_neg (lat_ne h4), b1, if_neg (by decide : ¬ (1 : Int32) = 0), if_neg (by decide : ¬ (1 : Int32) = 0)]
  · rcases h with ⟨h1, rfl⟩ | ⟨p, q, h1, h2, rfl, h4⟩
    · rw [b2 h1, if_pos rfl, if_pos rfl, if_pos rfl, if_neg (by decide : ¬ (1 : Int32) = 0), if_pos rfl, if_neg (by decide : ¬ (1 : Int32) = 0)]
    · have e := b3 p h1
      rw [h2] at e; cases e
      rw [b1]
      unfold endE
      rcases h4 with ⟨k1, k2⟩ | ⟨k1, k2, k3⟩
      · rw [k1, k2, if_pos rfl, if_pos rfl, if_pos rfl, if_neg (by decide : ¬ (1 : Int32) = 0), if_neg (by decide : ¬ (1 : Int32) = 0), if_pos rfl, if_pos rfl]
      · rw [k1, if_neg (by decide : ¬ (1 : Int32) = 0), if_neg (lat_ne k3), if_neg (lat_ne k3), if_neg (by decide : ¬ (1 : Int32) = 0), if_pos rfl, if_pos rfl, if_neg (by decide : ¬ (1 : Int32) = 0)]
theorem nsC_W {A : List AK} {v w a : List Int32} {keep timed : Int32} {t0 t : Int64} (h : PUR A v keep timed t0 t) : nsC keep t w a = nm 2 :: w :: a :: nsW keep timed t0 := by
  unfold nsC nsW
  rw [nm_2]
  rcases h with ⟨rfl, rfl, rfl⟩ | ⟨rfl, rfl, rfl, h4⟩ | ⟨rfl, rfl, h⟩
  · rw [if_pos rfl, if_pos rfl, if_pos rfl, if_pos rfl]; rfl
  · rw [if_pos rfl, if_pos rfl, if_neg (lat_ne h4), if_neg (by decide : ¬ (1 : Int32) = 0), tbP_]; rfl
  · rw [if_neg (by decide : ¬ (1 : Int32) = 0), if_neg (by decide : ¬ (1 : Int32) = 0), tbK_]; rfl
variable {j : Nat}
theorem cdN_cm (h : JC B σ ws nmm ks j) {r : Option Value} (q : cdN σ B σ ws nmm ks r u) : cmP B σ ws nmm ks j none r u := by
  obtain ⟨h1, nm', p, w, s, c⟩ := q
  exact ⟨h1, nm', ks, p, w, h.2.1, s, rfl, c⟩
theorem nt_del {r : Option Value} (h : JC B σ ws nmm ks j) (h1 : ws[1]? = some (gw ws 1)) (s : SCl scQ σ u) (h18 : u.1 59 18 = 1) (h13 : u.1 53 13 = 3) (A : List AK) : NTE ws j σ u (some (A, 22, [gw ws 1])) := by
  refine ⟨h18, gw ws 1, [], ⟨⟨(s (53, 8) (by decide)).2.2.trans h.hj.1, h.hj.2⟩, h.n1.1, Or.inr (Or.inr (Or.inr ⟨h13, h1⟩))⟩, ?_⟩
  rw [h13, nm_22]; rfl
theorem dec_f {rp : Int32} : decide (¬ rp = 0) = false ↔ rp = 0 := by rw [decide_eq_false_iff_not]; exact Decidable.not_not
/-- a text set, its time looked at -/
theorem pu_cm (h : JC B σ ws nmm ks j) (hv : ws[1]? = some (gw ws 1)) {n : Nat} {a : List Int32} (ha : ws[n]? = some a) {keep timed : Int32} {t0 t : Int64} (hP : PUR (skA ks) (gw ws 1) keep timed t0 t) {r : Option Value} (q : puP σ B σ ws nmm ks (gw ws 1) a (nI n) keep t r u) (hz : keep = 1 → ¬ (t ≤ σ.2.1 59 16 ∧ σ.1 59 17 = 0)) : cmP B σ ws nmm ks j (seF true keep timed t0 (σ.2.1 59 16) (decide (¬ σ.1 59 17 = 0)) (skA ks) (gw ws 1) a) r u := by
  obtain ⟨hr, nm', ks', p1, w1, r1, s1, q⟩ := q
  have hn := h.nv
  rcases q with ⟨q1, q2, q3, q4⟩ | ⟨q1, q2, q3, q4, q5, q6, q7⟩
  · rcases hP with ⟨rfl, rfl, rfl⟩ | ⟨rfl, rfl, rfl, h4⟩ | ⟨rfl, rfl, h5⟩
    · exact absurd q1 (Int64.not_le.mpr hn)
    · have e : seF true 0 1 t (σ.2.1 59 16) (decide (¬ σ.1 59 17 = 0)) (skA ks) (gw ws 1) a = (match kyI (skA ks) (gw ws 1) with | some p => some (rmA (skA ks) p, 22, [gw ws 1]) | none => none) := by
        unfold seF
        rw [if_neg (by decide), if_pos ⟨by decide, q1, dec_f.mpr q2⟩]
        cases kyI (skA ks) (gw ws 1) <;> rfl
      rw [e]
      rcases q4 with ⟨k1, k2, k3⟩ | ⟨p, k1, k2, k3⟩
      · rw [k1]; exact ⟨hr, nm', ks', p1, w1, r1, s1, k2, k3⟩
      · rw [k1]; exact ⟨hr, nm', ks', p1, w1, r1, s1, k2, nt_del (r := none) h hv s1 k3 q3 _⟩
    · exact absurd ⟨q1, q2⟩ (hz rfl)
  · have e : seF true keep timed t0 (σ.2.1 59 16) (decide (¬ σ.1 59 17 = 0)) (skA ks) (gw ws 1) a = some (stA (skA ks) (gw ws 1) a keep timed t0, 2, gw ws 1 :: a :: nsW keep timed t0) := by
      unfold seF
      rw [if_neg (by decide), if_neg ?_]
      intro z
      rcases hP with ⟨rfl, rfl, rfl⟩ | ⟨rfl, rfl, rfl, h4⟩ | ⟨rfl, rfl, h5⟩
      · exact z.1 rfl
      · exact q1 ⟨z.2.1, dec_f.mp z.2.2⟩
      · exact z.1 rfl
    rw [e]
    refine ⟨hr, nm', ks', p1, w1, r1, s1, ?_, q6, gw ws 1, a, ⟨⟨(s1 (53, 8) (by decide)).2.2.trans h.hj.1, h.hj.2⟩, h.n1.1, Or.inr (Or.inl ⟨q2, hv, n, q3, ha⟩)⟩, ?_⟩
    · show skA ks' = stA (skA ks) (gw ws 1) a keep timed t0
      rw [q7, pu_A h.ia (h.2.2.2.2.2.2.2.2.1 _ (List.mem_of_getElem? hv)) hP]
    · unfold ntC
      rw [q2, if_pos rfl, q4, q5]; exact nsC_W hP
theorem ti_cm (h : JC B σ ws nmm ks j) (hv : ws[1]? = some (gw ws 1)) {ot : Option Int64} {r : Option Value} (q : tiP σ B σ ws nmm ks (gw ws 1) ot r u) : cmP B σ ws nmm ks j (ot.bind (fun t => eiF t (σ.2.1 59 16) (decide (¬ σ.1 59 17 = 0)) (skA ks) (gw ws 1))) r u := by
  obtain ⟨hr, nm', ks', p1, w1, r1, s1, q⟩ := q
  have s2 : SCl scQ σ u := fun p hp => s1 p ((by decide : ∀ p ∈ scQ, p ∈ scS) p hp)
  rcases q with ⟨q1, q2, q3⟩ | ⟨t, p, rfl, q2, q3, q4⟩
  · have e : ot.bind (fun t => eiF t (σ.2.1 59 16) (decide (¬ σ.1 59 17 = 0)) (skA ks) (gw ws 1)) = none := by
      rcases q3 with rfl | q3
      · rfl
      · cases ot with
        | none => rfl
        | some t => show eiF _ _ _ _ _ = none; unfold eiF; rw [q3]
    rw [e]; exact ⟨hr, nm', ks', p1, w1, r1, s2, q1, q2⟩
  · show cmP B σ ws nmm ks j (eiF t (σ.2.1 59 16) (decide (¬ σ.1 59 17 = 0)) (skA ks) (gw ws 1)) r u
    have e : eiF t (σ.2.1 59 16) (decide (¬ σ.1 59 17 = 0)) (skA ks) (gw ws 1) = if t ≤ σ.2.1 59 16 ∧ decide (¬ σ.1 59 17 = 0) = false then some (rmA (skA ks) p, 22, [gw ws 1]) else some (upA (skA ks) p (exF t), 33, [gw ws 1, dec t]) := by unfold eiF; rw [q2]
    rw [e]
    rcases q4 with ⟨k1, k2, k3, k4⟩ | ⟨k1, k2, k3, k4⟩
    · rw [if_pos ⟨k1, dec_f.mpr k2⟩]
      exact ⟨hr, nm', ks', p1, w1, r1, s2, k3, nt_del (r := none) h hv s2 q3 k4 _⟩
    · rw [if_neg (fun z => k1 ⟨z.1, dec_f.mp z.2⟩)]
      refine ⟨hr, nm', ks', p1, w1, r1, s2, k2, q3, gw ws 1, [], ⟨⟨(s2 (53, 8) (by decide)).2.2.trans h.hj.1, h.hj.2⟩, h.n1.1, Or.inr (Or.inr (Or.inl ⟨k3, hv⟩))⟩, ?_⟩
      rw [k3, k4, nm_33]; rfl
/-- what is asked where no sort is -/
theorem rn_ti {i : Nat} (hi : rid j = i) (h2 : ¬ i = 2 ∧ i ∈ tiI ∧ ¬ i = 19) (hn : (kCmd j).2.2.2.1 &&& 1 = 0) (hsf : sfB i 0 ws (skA ks) = true) (rp : Int32) (now : Int64) : rnC rp now ks j ws = tiX i ws now (decide (¬ rp = 0)) (skA ks) := by
  unfold rnC
  rw [hi, if_neg (fun z => z.elim (fun y => y.2.2 hn) (fun y => h2.2.2 y.1)), if_neg (fun z : i = 2 ∧ _ => h2.1 z.1)]
  unfold rnF
  rw [if_neg h2.1, if_pos hsf, if_pos h2.2.1]
theorem rn_t2 {i : Nat} (hi : rid j = i) (h2 : ¬ i = 2 ∧ i ∈ tiI ∧ ¬ i = 19) {rp : Int32} (hn : ¬ fuB rp ks j) (now : Int64) : rnC rp now ks j ws = if sfB i 0 ws (skA ks) = true then tiX i ws now (decide (¬ rp = 0)) (skA ks) else none := by
  unfold rnC
  rw [hi, if_neg (fun z => z.elim hn (fun y => h2.2.2 y.1)), if_neg (fun z : i = 2 ∧ _ => h2.1 z.1)]
  unfold rnF
  rw [if_neg h2.1, if_pos h2.2.1]
theorem rn_fu {rp : Int32} (hn : fuB rp ks j) (now : Int64) : rnC rp now ks j ws = none := by
  unfold rnC
  rw [if_pos (Or.inl hn)]
theorem kc_10 (ty : kTY σ) (h : JC B σ ws nmm ks 10) : kjY kPP (kQQ Y) (d + 10) 150 0 (mjL0 2 [.ref 59, .ref (1000000 + 10)]) [] σ (cmP B σ ws nmm ks 10 (rnC (σ.1 59 17) (σ.2.1 59 16) ks 10 ws)) := by
  have g1 := (h.gw_ (a := 2) (k := 1) rfl (by decide) (by decide)).2
  have g2 := (h.gw_ (a := 2) (k := 2) rfl (by decide) (by decide)).2
  rw [rn_ti (i := 30) rfl (by decide) (by decide) rfl]
  exact kr_10 (d := d + 1) ty cmP.n (kjY_mono ty (fun r u _ _ q => ti_cm h g1 q) (kx_setTime (d := d + 3) ty h.1 h.2.1 h.em h.hB g1 g2 (j := 10) (by decide)))
theorem kc_11 (ty : kTY σ) (h : JC B σ ws nmm ks 11) : kjY kPP (kQQ Y) (d + 10) 150 0 (mjL0 2 [.ref 59, .ref (1000000 + 11)]) [] σ (cmP B σ ws nmm ks 11 (rnC (σ.1 59 17) (σ.2.1 59 16) ks 11 ws)) := by
  have g1 := (h.gw_ (a := 2) (k := 1) rfl (by decide) (by decide)).2
  have g2 := (h.gw_ (a := 2) (k := 2) rfl (by decide) (by decide)).2
  rw [rn_ti (i := 32) rfl (by decide) (by decide) rfl]
  exact kr_11 (d := d + 1) ty cmP.n (kjY_mono ty (fun r u _ _ q => ti_cm h g1 q) (kx_setTime (d := d + 3) ty h.1 h.2.1 h.em h.hB g1 g2 (j := 11) (by decide)))
theorem kc_49 (ty : kTY σ) (h : JC B σ ws nmm ks 49) : kjY kPP (kQQ Y) (d + 10) 150 0 (mjL0 2 [.ref 59, .ref (1000000 + 49)]) [] σ (cmP B σ ws nmm ks 49 (rnC (σ.1 59 17) (σ.2.1 59 16) ks 49 ws)) := by
  have g1 := (h.gw_ (a := 2) (k := 1) rfl (by decide) (by decide)).2
  have g2 := (h.gw_ (a := 2) (k := 2) rfl (by decide) (by decide)).2
  rw [rn_ti (i := 31) rfl (by decide) (by decide) rfl]
  exact kr_49 (d := d + 1) ty cmP.n (kjY_mono ty (fun r u _ _ q => ti_cm h g1 q) (kx_setTime (d := d + 3) ty h.1 h.2.1 h.em h.hB g1 g2 (j := 49) (by decide)))
theorem kc_50 (ty : kTY σ) (h : JC B σ ws nmm ks 50) : kjY kPP (kQQ Y) (d + 10) 150 0 (mjL0 2 [.ref 59, .ref (1000000 + 50)]) [] σ (cmP B σ ws nmm ks 50 (rnC (σ.1 59 17) (σ.2.1 59 16) ks 50 ws)) := by
  have g1 := (h.gw_ (a := 2) (k := 1) rfl (by decide) (by decide)).2
  have g2 := (h.gw_ (a := 2) (k := 2) rfl (by decide) (by decide)).2
  rw [rn_ti (i := 33) rfl (by decide) (by decide) rfl]
  exact kr_50 (d := d + 1) ty cmP.n (kjY_mono ty (fun r u _ _ q => ti_cm h g1 q) (kx_setTime (d := d + 3) ty h.1 h.2.1 h.em h.hB g1 g2 (j := 50) (by decide)))
end KJTIME
