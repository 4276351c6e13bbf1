/-! What is told of lists, hashes and sets with scores. -/
section READS
variable {Y : Nat → MethodName × ByteArray} {d : Nat}
/-- a place among the elements, and what is still to come: forward or backward -/
def CUR (y : KR) (bk : Prop) (R : List ER) (x : Int32) : Prop := ((¬ bk) ∧ x = nx (ids R) ∧ ∃ F, y.2.2.2.2.2.2 = F ++ R) ∨ (bk ∧ x = lst (-1) (ids R.reverse) ∧ ∃ F, y.2.2.2.2.2.2 = R.reverse ++ F)
theorem CUR.nil {y : KR} {bk : Prop} {x : Int32} (h : CUR y bk [] x) : x = -1 := by
  rcases h with ⟨-, e, -⟩ | ⟨-, e, -⟩
  · exact e
  · exact e
theorem CUR.cons {σ : mjS} {ws : List (List Int32)} {P Q : List KR} {y : KR} {l : List Int32} (hW : Wd σ ws (P ++ y :: Q) l) {bk : Prop} {z : ER} {R : List ER} {x : Int32} (h : CUR y bk (z :: R) x) : x = nI z.1 ∧ z ∈ y.2.2.2.2.2.2 ∧ z.1 < 10000 ∧ vp_in x 10000 ∧ ((¬ bk) → CUR y bk R (σ.2.2.1 r_eNext x.toNatClampNeg)) ∧ (bk → CUR y bk R (σ.2.2.1 r_ePrev x.toNatClampNeg)) := by
  rcases h with ⟨b, e, F, hF⟩ | ⟨b, e, F, hF⟩
  · have e : x = nI z.1 := e
    have hm : z ∈ y.2.2.2.2.2.2 := by rw [hF]; exact List.mem_append_right _ List.mem_cons_self
    obtain ⟨hN, -, vx⟩ := W_next hW hF e
    have hid := (hW.eid hm).elim (fun _ k => k.2.1)
    refine ⟨e, hm, hid, vx, fun _ => Or.inl ⟨b, hN, F ++ [z], by rw [hF, List.append_assoc]; rfl⟩, fun q => absurd q b⟩
  · have e : x = nI z.1 := by rw [e, List.reverse_cons, ids_app]; exact lst_snoc _ _ _
    have hF2 : y.2.2.2.2.2.2 = R.reverse ++ z :: F := by rw [hF, List.reverse_cons, List.append_assoc]; rfl
    have hm : z ∈ y.2.2.2.2.2.2 := by rw [hF2]; exact List.mem_append_right _ List.mem_cons_self
    obtain ⟨-, hP, vx⟩ := W_next hW hF2 e
    have hid := (hW.eid hm).elim (fun _ k => k.2.1)
    exact ⟨e, hm, hid, vx, fun q => absurd b q, fun _ => Or.inr ⟨b, hP, z :: F, hF2⟩⟩
theorem CUR.head {σ : mjS} {ws : List (List Int32)} {P Q : List KR} {y : KR} {l : List Int32} (h : Wd σ ws (P ++ y :: Q) l) {x : Int32} (ex : x = nI y.1) {bk : Prop} : ((¬ bk) → CUR y bk y.2.2.2.2.2.2 (σ.2.2.1 r_kHead x.toNatClampNeg)) ∧ (bk → CUR y bk y.2.2.2.2.2.2.reverse (σ.2.2.1 r_kTail x.toNatClampNeg)) := by
  obtain ⟨kT, kH, -, -⟩ := W_tail h ex
  exact ⟨fun b => Or.inl ⟨b, kH, [], rfl⟩, fun b => Or.inr ⟨b, by rw [List.reverse_reverse]; exact kT, [], by rw [List.reverse_reverse, List.append_nil]⟩⟩
-- LRANGE
set_option maxRecDepth 100000 in
theorem c_rr_loop (K : mjK) {ws : List (List Int32)} {l : List Int32} {P Q : List KR} {y : KR} (x1 : Int32) (t : Nat) (ht : t ≤ 10000) : ∀ (R : List ER) (i : Nat) (σ : mjS) (x2 x3 : Int32), CUR y False R x2 → x3 = nI i → t ≤ i + R.length → i ≤ 10000 → mjTY σ → Wd σ ws (P ++ y :: Q) l → σ.1 f_upTo = nI t → (∀ u, Fr cF cH σ u → Wd u ws (P ++ y :: Q) l → K none u) →
    mjY mjPP (mjQQ Y) (d + 3) 108 31 [some (.ref 0), some (.int x1), some (.int x2), some (.int x3)] [] σ K := by
  intro R
  induction R with
  | nil =>
    intro i σ x2 x3 hc e3 hl hi ty h eu hK
    refine mjZ_y rfl rfl 4 _ _ _ _ ty ?_
    refine (And.intro rfl (And.intro (fun q => ?_) (fun q => ?_)))
    · refine mjZ_y rfl rfl 1 _ _ _ _ ty ?_
      refine And.intro rfl (And.intro rfl ?_)
      exact hK σ Fr.rf h
    · exact absurd (show σ.1 f_upTo ≤ x3 by rw [eu, e3]; exact nI_le (by simpa using hl) (by omega)) q
  | cons z R ih =>
    intro i σ x2 x3 hc e3 hl hi ty h eu hK
    obtain ⟨e2, hm, hid, v2, -, -⟩ := hc.cons h
    obtain ⟨hs, hh, ho⟩ := h.eid hm
    refine mjZ_y rfl rfl 4 _ _ _ _ ty ?_
    refine (And.intro rfl (And.intro (fun q => ?_) (fun q => ?_)))
    · refine mjZ_y rfl rfl 1 _ _ _ _ ty ?_
      refine And.intro rfl (And.intro rfl ?_)
      exact hK σ Fr.rf h
    · have q : i < t := Nat.lt_of_not_le (fun c => q (show σ.1 f_upTo ≤ x3 by rw [eu, e3]; exact nI_le c (by omega)))
      refine mjZ_y rfl rfl 12 _ _ _ _ ty ?_
      refine (And.intro rfl (And.intro rfl (And.intro rfl (And.intro v2 (And.intro rfl (And.intro rfl (And.intro v2 (And.intro (Nat.le_of_ble_eq_true rfl) (And.intro rfl (And.intro (Nat.le_of_ble_eq_true rfl) (And.intro (Nat.le_of_ble_eq_true rfl) (mjY_mono ty (fun q_ u1 ty1 h_ => ?_) (w_wordR h ty ho.2.1 hh (by omega) e2)))))))))))))
      obtain ⟨rfl, h1, f1⟩ := h_
      intro _
      obtain ⟨-, -, -, -, hN, -⟩ := hc.cons h1
      refine mjZ_y rfl rfl 7 _ _ _ _ ty1 ?_
      refine (And.intro rfl (And.intro rfl (And.intro v2 (And.intro (Nat.le_of_ble_eq_true rfl) ?_))))
      exact ih (i + 1) u1 _ _ (hN id) (by rw [e3]; exact nI_1 i) (by rw [List.length_cons] at hl; omega) (by omega) ty1 h1 (by rw [f1.1.1 _ (by decide)]; exact eu) (fun u fu hu => hK u (f1.c.tr fu) hu)
set_option maxRecDepth 100000 in
theorem r_range {σ : mjS} {ws : List (List Int32)} {ks : List KR} {l : List Int32} (h : Wd σ ws ks l) (ty : mjTY σ) {w : List Int32} {x1 : Int32} (e1 : x1 = kyS ks w) : mjY mjPP (mjQQ Y) (d + 5) 108 0 (mjL0 4 [.ref 0, .int x1]) [] σ (cmdK σ ws ks l 44 none) := by
  have hm := mnA_le h w
  have sle := strF_le (σ.2.1 f_n1) (σ.2.1 f_n2) (mnA (strip ks) w) (by omega)
  refine mjZ_y rfl rfl 8 _ _ _ _ ty ?_
  refine (And.intro rfl (And.intro rfl (And.intro (Nat.le_of_ble_eq_true rfl) (And.intro rfl (And.intro (Nat.le_of_ble_eq_true rfl) (And.intro (Nat.le_of_ble_eq_true rfl) (mjY_mono ty (fun q_ u1 ty1 h_ => ?_) (w_many h ty (w := w) e1))))))))
  obtain ⟨rfl, rfl⟩ := h_
  intro _
  have hc := c_stretch (Y := Y) (d := d + 4) ty (u1.2.1 f_n1) (u1.2.1 f_n2) (mnA (strip ks) w) (by omega) rfl
  refine mjZ_y rfl rfl 1 _ _ _ _ ty ?_
  refine (And.intro (Nat.le_of_ble_eq_true rfl) (And.intro rfl (And.intro (Nat.le_of_ble_eq_true rfl) (And.intro (Nat.le_of_ble_eq_true rfl) (mjY_mono ty (fun q_ u2 ty2 h_ => ?_) (hc))))))
  obtain ⟨rfl, f2, e2, e3⟩ := h_
  intro _
  have h2 := h.fr f2 (by decide) (by decide)
  have f2c : Fr cF cH u1 u2 := f2.up (by decide) (by decide)
  refine mjZ_y rfl rfl 7 _ _ _ _ ty2 ?_
  refine (And.intro rfl (And.intro rfl (And.intro (Nat.le_of_ble_eq_true rfl) (And.intro rfl (And.intro (Nat.le_of_ble_eq_true rfl) (And.intro (Nat.le_of_ble_eq_true rfl) (mjY_mono ty2 (fun q_ u3 ty3 h_ => ?_) (w_row h2 ty2 _))))))))
  obtain ⟨rfl, h3, f3⟩ := h_
  intro _
  have e4 : u3.1 f_from = nI (strF (u1.2.1 f_n1) (u1.2.1 f_n2) (mnA (strip ks) w)).1 := by rw [f3.1.1 _ (by decide)]; exact e2
  have e5 : u3.1 f_upTo = nI (strF (u1.2.1 f_n1) (u1.2.1 f_n2) (mnA (strip ks) w)).2 := by rw [f3.1.1 _ (by decide)]; exact e3
  generalize (strF (u1.2.1 f_n1) (u1.2.1 f_n2) (mnA (strip ks) w)).1 = fr at *
  generalize (strF (u1.2.1 f_n1) (u1.2.1 f_n2) (mnA (strip ks) w)).2 = tt at *
  refine mjZ_y rfl rfl 5 _ _ _ _ ty3 ?_
  refine (And.intro rfl (And.intro rfl (And.intro (fun q => ?_) (fun q => ?_))))
  · have q : fr < tt := by
      refine Nat.lt_of_le_of_ne sle.1 (fun z => q ?_)
      show u3.1 f_from = u3.1 f_upTo
      rw [e4, e5, z]
    have kn : ¬ kyI (strip ks) w = none := by
      intro z
      have : mnA (strip ks) w = 0 := by unfold mnA; rw [z]
      omega
    obtain ⟨P, y, Q, g0, g1, g2, -⟩ := ky_some kn
    have e1y : x1 = nI y.1 := e1.trans g2
    subst g0
    have em := mnA_at g1
    refine mjZ_y rfl rfl 5 _ _ _ _ ty3 ?_
    refine (And.intro rfl (And.intro (Nat.le_of_ble_eq_true rfl) (And.intro rfl (And.intro (Nat.le_of_ble_eq_true rfl) (And.intro (Nat.le_of_ble_eq_true rfl) (mjY_mono ty3 (fun q_ u4 ty4 h_ => ?_) (w_at h3 ty3 fr (by omega) e1y e4)))))))
    obtain ⟨rfl, F1, F2, t, hF, hl, rfl⟩ := h_
    intro _
    refine mjZ_y rfl rfl 4 _ _ _ _ ty3 ?_
    refine (And.intro (Nat.le_of_ble_eq_true rfl) (And.intro rfl (And.intro (Nat.le_of_ble_eq_true rfl) ?_)))
    exact c_rr_loop _ x1 tt (by omega) (t :: F2) fr u4 _ _ (Or.inl ⟨id, rfl, F1, hF⟩) e4 (by rw [hF, List.length_append] at em; omega) (by omega) ty3 h3 e5 (fun u fu hu => ⟨rfl, (f2c.tr f3.c).tr fu, _, hu, rfl⟩)
  · refine mjZ_y rfl rfl 1 _ _ _ _ ty3 ?_
    refine And.intro rfl (And.intro rfl ?_)
    exact ⟨rfl, f2c.tr f3.c, ks, h3, rfl⟩
-- ZRANGE, ZREVRANGE
set_option maxRecDepth 100000 in
theorem c_zr_loop (K : mjK) (i1 : Nat) (hi1 : i1 < 128) (x1 : Int32) (e1 : x1 = nI i1) {ws : List (List Int32)} {l : List Int32} {P Q : List KR} {y : KR} (x2 x3 : Int32) (t : Nat) (ht : t ≤ 10000) : ∀ (R : List ER) (i : Nat) (σ : mjS) (x4 x5 : Int32), CUR y (i1 = 86) R x4 → x5 = nI i → t ≤ i + R.length → i ≤ 10000 → mjTY σ → Wd σ ws (P ++ y :: Q) l → σ.1 f_upTo = nI t → (∀ u, Fr cF cH σ u → Wd u ws (P ++ y :: Q) l → K none u) →
    mjY mjPP (mjQQ Y) (d + 4) 137 47 [some (.ref 0), some (.int x1), some (.int x2), some (.int x3), some (.int x4), some (.int x5)] [] σ K := by
  have nn : ∀ c : Nat, c < 128 → ((¬ x1 = nI c) ↔ ¬ i1 = c) := fun c hc => by rw [e1, nI_eq (by omega) (by omega)]
  intro R
  induction R with
  | nil =>
    intro i σ x4 x5 hc e5 hl hi ty h eu hK
    refine mjZ_y rfl rfl 4 _ _ _ _ ty ?_
    refine (And.intro rfl (And.intro (fun q => ?_) (fun q => ?_)))
    · refine mjZ_y rfl rfl 1 _ _ _ _ ty ?_
      refine And.intro rfl (And.intro rfl ?_)
      exact hK σ Fr.rf h
    · exact absurd (show σ.1 f_upTo ≤ x5 by rw [eu, e5]; exact nI_le (by simpa using hl) (by omega)) q
  | cons z R ih =>
    intro i σ x4 x5 hc e5 hl hi ty h eu hK
    obtain ⟨e4, hm, hid, v4, -, -⟩ := hc.cons h
    rw [List.length_cons] at hl
    have s60 : ∀ u : mjS, mjTY u → Wd u ws (P ++ y :: Q) l → oO σ u → i < t → mjY mjPP (mjQQ Y) (d + 4) 137 60 [some (.ref 0), some (.int x1), some (.int x2), some (.int x3), some (.int x4), some (.int x5)] [] u K := by
      intro u tu hu ou hit
      obtain ⟨-, -, -, -, hN, hP⟩ := hc.cons hu
      refine mjZ_y rfl rfl 3 _ _ _ _ tu ?_
      refine And.intro (fun c => ?_) (fun c => ?_)
      · have c := (nn 86 (by decide)).mp c
        refine mjZ_y rfl rfl 7 _ _ _ _ tu ?_
        refine (And.intro rfl (And.intro rfl (And.intro v4 (And.intro (Nat.le_of_ble_eq_true rfl) ?_))))
        exact ih (i + 1) u _ _ (hN c) (by rw [e5]; exact nI_1 i) (by omega) (by omega) tu hu (by rw [ou.1.1 _ (by decide)]; exact eu) (fun v fv hv => hK v (ou.c.tr fv) hv)
      · have c : i1 = 86 := Decidable.of_not_not (fun t => c ((nn 86 (by decide)).mpr t))
        refine mjZ_y rfl rfl 8 _ _ _ _ tu ?_
        refine (And.intro rfl (And.intro rfl (And.intro v4 (And.intro (Nat.le_of_ble_eq_true rfl) ?_))))
        exact ih (i + 1) u _ _ (hP c) (by rw [e5]; exact nI_1 i) (by omega) (by omega) tu hu (by rw [ou.1.1 _ (by decide)]; exact eu) (fun v fv hv => hK v (ou.c.tr fv) hv)
    refine mjZ_y rfl rfl 4 _ _ _ _ ty ?_
    refine (And.intro rfl (And.intro (fun q => ?_) (fun q => ?_)))
    · refine mjZ_y rfl rfl 1 _ _ _ _ ty ?_
      refine And.intro rfl (And.intro rfl ?_)
      exact hK σ Fr.rf h
    · have q : i < t := Nat.lt_of_not_le (fun c => q (show σ.1 f_upTo ≤ x5 by rw [eu, e5]; exact nI_le c (by omega)))
      refine mjZ_y rfl rfl 4 _ _ _ _ ty ?_
      refine (And.intro rfl (And.intro (fun b => ?_) (fun b => ?_)))
      · exact s60 σ ty h (oO.rf h.2.2.2.1) q
      · refine mjZ_y rfl rfl 5 _ _ _ _ ty ?_
        refine (And.intro rfl (And.intro (Nat.le_of_ble_eq_true rfl) (And.intro rfl (And.intro (Nat.le_of_ble_eq_true rfl) (And.intro (Nat.le_of_ble_eq_true rfl) (mjY_mono ty (fun q_ u1 ty1 h_ => ?_) (w_tellRanked h ty hm e4)))))))
        obtain ⟨rfl, h1, f1⟩ := h_
        intro _
        exact s60 u1 ty1 h1 f1 q
set_option maxRecDepth 100000 in
theorem r_zrange {σ : mjS} {ws : List (List Int32)} {ks : List KR} {l : List Int32} (h : Wd σ ws ks l) (ty : mjTY σ) (i1 : Nat) (hi : i1 < 128) {x1 : Int32} (e1 : x1 = nI i1) {w : List Int32} (h1 : ws[1]? = some w) : mjY mjPP (mjQQ Y) (d + 6) 137 0 (mjL0 6 [.ref 0, .int x1]) [] σ (cmdK σ ws ks l i1 none) := by
  have nn : ∀ c : Nat, c < 128 → ((¬ x1 = nI c) ↔ ¬ i1 = c) := fun c hc => by rw [e1, nI_eq (by omega) (by omega)]
  have hm := mnA_le h w
  have sle := strF_le (σ.2.1 f_n1) (σ.2.1 f_n2) (mnA (strip ks) w) (by omega)
  refine mjZ_y rfl rfl 3 _ _ _ _ ty ?_
  refine (And.intro (Nat.le_of_ble_eq_true rfl) (And.intro rfl (And.intro (Nat.le_of_ble_eq_true rfl) (And.intro (Nat.le_of_ble_eq_true rfl) (mjY_mono ty (fun q_ u0 ty0 h_ => ?_) (w_key h ty h1 (x := Int32.ofInt 1) rfl))))))
  obtain ⟨rfl, rfl⟩ := h_
  intro _
  refine mjZ_y rfl rfl 9 _ _ _ _ ty ?_
  refine (And.intro (Nat.le_of_ble_eq_true rfl) (And.intro rfl (And.intro rfl (And.intro (Nat.le_of_ble_eq_true rfl) (And.intro rfl (And.intro (Nat.le_of_ble_eq_true rfl) (And.intro (Nat.le_of_ble_eq_true rfl) (mjY_mono ty (fun q_ u1 ty1 h_ => ?_) (w_many h ty (w := w) rfl)))))))))
  obtain ⟨rfl, rfl⟩ := h_
  intro _
  have hc := c_stretch (Y := Y) (d := d + 5) ty (u1.2.1 f_n1) (u1.2.1 f_n2) (mnA (strip ks) w) (by omega) rfl
  refine mjZ_y rfl rfl 1 _ _ _ _ ty ?_
  refine (And.intro (Nat.le_of_ble_eq_true rfl) (And.intro rfl (And.intro (Nat.le_of_ble_eq_true rfl) (And.intro (Nat.le_of_ble_eq_true rfl) (mjY_mono ty (fun q_ u2 ty2 h_ => ?_) (hc))))))
  obtain ⟨rfl, f2, e2, e3⟩ := h_
  intro _
  have h2 := h.fr f2 (by decide) (by decide)
  have f2c : Fr cF cH u1 u2 := f2.up (by decide) (by decide)
  have ed : u2.1 f_upTo - u2.1 f_from = nI ((strF (u1.2.1 f_n1) (u1.2.1 f_n2) (mnA (strip ks) w)).2 - (strF (u1.2.1 f_n1) (u1.2.1 f_n2) (mnA (strip ks) w)).1) := by rw [e2, e3]; exact pk_sub sle.1
  generalize (strF (u1.2.1 f_n1) (u1.2.1 f_n2) (mnA (strip ks) w)).1 = fr at *
  generalize (strF (u1.2.1 f_n1) (u1.2.1 f_n2) (mnA (strip ks) w)).2 = tt at *
  have s28 : ∀ (x3 z : Int32), x3 = nI (tt - fr) → mjY mjPP (mjQQ Y) (d + 6) 137 28 [some (.ref 0), some (.int x1), some (.int (kyS ks w)), some (.int x3), none, none] [.int z, .ref 0] u2 (cmdK u1 ws ks l i1 none) := by
    intro x3 z ex3
    refine mjZ_y rfl rfl 1 _ _ _ _ ty2 ?_
    refine (And.intro (Nat.le_of_ble_eq_true rfl) (And.intro rfl (And.intro (Nat.le_of_ble_eq_true rfl) (And.intro (Nat.le_of_ble_eq_true rfl) (mjY_mono ty2 (fun q_ u3 ty3 h_ => ?_) (w_row h2 ty2 _))))))
    obtain ⟨rfl, h3, f3⟩ := h_
    intro _
    have e5 : u3.1 f_upTo = nI tt := by rw [f3.1.1 _ (by decide)]; exact e3
    refine mjZ_y rfl rfl 2 _ _ _ _ ty3 ?_
    refine And.intro (fun q => ?_) (fun q => ?_)
    · have q : ¬ tt - fr = 0 := fun z => q (show x3 = 0 by rw [ex3, z]; rfl)
      have kn : ¬ kyI (strip ks) w = none := by
        intro z
        have : mnA (strip ks) w = 0 := by unfold mnA; rw [z]
        omega
      obtain ⟨P, y, Q, g0, g1, g2, -⟩ := ky_some kn
      have ey : kyS ks w = nI y.1 := g2
      generalize kyS ks w = x2 at ey
      subst g0
      have em := mnA_at g1
      obtain ⟨-, -, -, vk⟩ := W_tail h3 ey
      have hd := CUR.head h3 ey (bk := i1 = 86)
      refine mjZ_y rfl rfl 8 _ _ _ _ ty3 ?_
      refine (And.intro rfl (And.intro rfl (And.intro vk (And.intro (Nat.le_of_ble_eq_true rfl) (And.intro (fun c => ?_) (fun c => ?_))))))
      · have c := (nn 86 (by decide)).mp c
        refine mjZ_y rfl rfl 2 _ _ _ _ ty3 ?_
        refine (And.intro (Nat.le_of_ble_eq_true rfl) ?_)
        exact c_zr_loop _ i1 hi x1 e1 x2 x3 tt (by omega) y.2.2.2.2.2.2 0 u3 _ _ (hd.1 c) rfl (by omega) (by omega) ty3 h3 e5 (fun u fu hu => ⟨rfl, (f2c.tr f3.c).tr fu, _, hu, rfl⟩)
      · have c : i1 = 86 := Decidable.of_not_not (fun t => c ((nn 86 (by decide)).mpr t))
        refine mjZ_y rfl rfl 7 _ _ _ _ ty3 ?_
        refine (And.intro rfl (And.intro rfl (And.intro vk (And.intro (Nat.le_of_ble_eq_true rfl) (And.intro (Nat.le_of_ble_eq_true rfl) ?_)))))
        exact c_zr_loop _ i1 hi x1 e1 x2 x3 tt (by omega) y.2.2.2.2.2.2.reverse 0 u3 _ _ (hd.2 c) rfl (by rw [List.length_reverse]; omega) (by omega) ty3 h3 e5 (fun u fu hu => ⟨rfl, (f2c.tr f3.c).tr fu, _, hu, rfl⟩)
    · refine mjZ_y rfl rfl 1 _ _ _ _ ty3 ?_
      refine And.intro rfl (And.intro rfl ?_)
      exact ⟨rfl, f2c.tr f3.c, ks, h3, rfl⟩
  refine mjZ_y rfl rfl 10 _ _ _ _ ty2 ?_
  refine (And.intro rfl (And.intro rfl (And.intro (Nat.le_of_ble_eq_true rfl) (And.intro rfl (And.intro (fun q => ?_) (fun q => ?_))))))
  · refine mjZ_y rfl rfl 1 _ _ _ _ ty2 ?_
    exact s28 _ _ ed
  · refine mjZ_y rfl rfl 4 _ _ _ _ ty2 ?_
    exact s28 _ _ ed
-- ZCARD, ZSCORE, ZRANK, ZREVRANK
set_option maxRecDepth 100000 in
theorem c_zk_loop (K : mjK) (bk : Bool) {σ : mjS} {ws : List (List Int32)} {l : List Int32} {P Q : List KR} {y : KR} (h : Wd σ ws (P ++ y :: Q) l) (ty : mjTY σ) (x1 x2 x3 : Int32) (hK : ∀ x4 x5, mjY mjPP (mjQQ Y) d 135 68 [some (.ref 0), some (.int x1), some (.int x2), some (.int x3), some (.int x4), some (.int x5)] [] σ K) : ∀ (R : List ER) (x4 x5 : Int32), CUR y (bk = true) R x5 →
    mjY mjPP (mjQQ Y) d 135 (if bk = true then 44 else 59) [some (.ref 0), some (.int x1), some (.int x2), some (.int x3), some (.int x4), some (.int x5)] [] σ K := by
  cases bk with
  | true =>
    intro R
    induction R with
    | nil =>
      intro x4 x5 hc
      show mjY mjPP (mjQQ Y) d 135 44 _ [] σ K
      refine mjZ_y rfl rfl 2 _ _ _ _ ty ?_
      refine And.intro (fun q => ?_) (fun q => ?_)
      · refine mjZ_y rfl rfl 1 _ _ _ _ ty ?_
        exact hK _ _
      · exact absurd (lt_m1 hc.nil) q
    | cons z R ih =>
      intro x4 x5 hc
      obtain ⟨e5, hm, hid, v5, -, hP⟩ := hc.cons h
      show mjY mjPP (mjQQ Y) d 135 44 _ [] σ K
      refine mjZ_y rfl rfl 2 _ _ _ _ ty ?_
      refine And.intro (fun q => ?_) (fun q => ?_)
      · exact absurd (show x5 < 0 from q) (lt_nI (by omega) e5)
      · refine mjZ_y rfl rfl 7 _ _ _ _ ty ?_
        refine (And.intro rfl (And.intro rfl (And.intro v5 (And.intro (Nat.le_of_ble_eq_true rfl) ?_))))
        exact ih _ _ (hP rfl)
  | false =>
    intro R
    induction R with
    | nil =>
      intro x4 x5 hc
      show mjY mjPP (mjQQ Y) d 135 59 _ [] σ K
      refine mjZ_y rfl rfl 2 _ _ _ _ ty ?_
      refine And.intro (fun q => ?_) (fun q => ?_)
      · exact hK _ _
      · exact absurd (lt_m1 hc.nil) q
    | cons z R ih =>
      intro x4 x5 hc
      obtain ⟨e5, hm, hid, v5, hN, -⟩ := hc.cons h
      show mjY mjPP (mjQQ Y) d 135 59 _ [] σ K
      refine mjZ_y rfl rfl 2 _ _ _ _ ty ?_
      refine And.intro (fun q => ?_) (fun q => ?_)
      · exact absurd (show x5 < 0 from q) (lt_nI (by omega) e5)
      · refine mjZ_y rfl rfl 7 _ _ _ _ ty ?_
        refine (And.intro rfl (And.intro rfl (And.intro v5 (And.intro (Nat.le_of_ble_eq_true rfl) ?_))))
        exact ih _ _ (hN (by decide))
set_option maxRecDepth 100000 in
theorem r_ranks {σ : mjS} {ws : List (List Int32)} {ks : List KR} {l : List Int32} (h : Wd σ ws ks l) (ty : mjTY σ) (i1 : Nat) (hi : i1 < 128) {x1 : Int32} (e1 : x1 = nI i1) {w v : List Int32} (h1 : ws[1]? = some w) (h2 : ¬ i1 = 82 → ws[2]? = some v) : mjY mjPP (mjQQ Y) (d + 6) 135 0 (mjL0 6 [.ref 0, .int x1]) [] σ (cmdK σ ws ks l i1 none) := by
  have nn : ∀ c : Nat, c < 128 → ((¬ x1 = nI c) ↔ ¬ i1 = c) := fun c hc => by rw [e1, nI_eq (by omega) (by omega)]
  refine mjZ_y rfl rfl 3 _ _ _ _ ty ?_
  refine (And.intro (Nat.le_of_ble_eq_true rfl) (And.intro rfl (And.intro (Nat.le_of_ble_eq_true rfl) (And.intro (Nat.le_of_ble_eq_true rfl) (mjY_mono ty (fun q_ u1 ty1 h_ => ?_) (w_key h ty h1 (x := Int32.ofInt 1) rfl))))))
  obtain ⟨rfl, rfl⟩ := h_
  intro _
  refine mjZ_y rfl rfl 4 _ _ _ _ ty ?_
  refine (And.intro (Nat.le_of_ble_eq_true rfl) (And.intro (fun a => ?_) (fun a => ?_)))
  · have a := (nn 82 (by decide)).mp a
    have no : mjY mjPP (mjQQ Y) (d + 6) 135 18 [some (.ref 0), some (.int x1), some (.int (kyS ks w)), none, none, none] [.int (-1)] u1 (cmdK u1 ws ks l i1 none) := by
      refine mjZ_y rfl rfl 3 _ _ _ _ ty ?_
      refine (And.intro (Nat.le_of_ble_eq_true rfl) (And.intro (fun q => ?_) (fun q => ?_)))
      · exact absurd q (ge_m1 rfl)
      · refine mjZ_y rfl rfl 2 _ _ _ _ ty ?_
        refine (And.intro (Nat.le_of_ble_eq_true rfl) (And.intro rfl (And.intro (Nat.le_of_ble_eq_true rfl) (And.intro (Nat.le_of_ble_eq_true rfl) (mjY_mono ty (fun q_ u2 ty2 h_ => ?_) (w_nil h ty))))))
        obtain ⟨rfl, h3, f3⟩ := h_
        intro _
        refine mjZ_y rfl rfl 2 _ _ _ _ ty2 ?_
        refine And.intro rfl (And.intro rfl ?_)
        exact ⟨rfl, f3.c, ks, h3, rfl⟩
    by_cases kn : kyI (strip ks) w = none
    · refine mjZ_y rfl rfl 4 _ _ _ _ ty ?_
      refine (And.intro (Nat.le_of_ble_eq_true rfl) (And.intro rfl (And.intro (Nat.le_of_ble_eq_true rfl) (And.intro (Nat.le_of_ble_eq_true rfl) (mjY_mono ty (fun q_ u2 ty2 h_ => ?_) (w_ranked0 ty (ky_none kn)))))))
      obtain ⟨rfl, rfl⟩ := h_
      intro _
      exact no
    · obtain ⟨P, y, Q, g0, g1, g2, -⟩ := ky_some kn
      have h' : Wd u1 ws (P ++ y :: Q) l := by rw [← g0]; exact h
      refine mjZ_y rfl rfl 4 _ _ _ _ ty ?_
      refine (And.intro (Nat.le_of_ble_eq_true rfl) (And.intro rfl (And.intro (Nat.le_of_ble_eq_true rfl) (And.intro (Nat.le_of_ble_eq_true rfl) (mjY_mono ty (fun q_ u2 ty2 h_ => ?_) (w_ranked h' ty (h2 a) g2 (x2 := Int32.ofInt 2) rfl))))))
      obtain ⟨rfl, r, rfl, hr⟩ := h_
      intro _
      cases hf : fdE v (y.2.2.2.2.2.2.map (fun z => z.2)) with
      | none =>
        rw [hf] at hr
        have hr : r = -1 := hr
        rw [hr]; exact no
      | some i =>
        rw [hf] at hr
        obtain ⟨F1, t, F2, hF, hl1, er⟩ := hr
        have tid := (h'.eid (y := t) (by rw [hF]; exact List.mem_append_right _ List.mem_cons_self)).elim (fun _ k => k.2.1)
        have v3 : vp_in r 10000 := by rw [er]; exact vp_in_nI tid (by decide)
        have fin : ∀ x4 x5 : Int32, mjY mjPP (mjQQ Y) (d + 6) 135 68 [some (.ref 0), some (.int x1), some (.int (kyS ks w)), some (.int r), some (.int x4), some (.int x5)] [] u2 (cmdK u2 ws ks l i1 none) := by
          intro x4 x5
          refine mjZ_y rfl rfl 4 _ _ _ _ ty ?_
          refine (And.intro (Nat.le_of_ble_eq_true rfl) (And.intro rfl (And.intro (Nat.le_of_ble_eq_true rfl) (And.intro (Nat.le_of_ble_eq_true rfl) (mjY_mono ty (fun q_ u3 ty3 h_ => ?_) (w_number h ty _))))))
          obtain ⟨rfl, h3, f3⟩ := h_
          intro _
          refine mjZ_y rfl rfl 1 _ _ _ _ ty3 ?_
          refine And.intro rfl (And.intro rfl ?_)
          exact ⟨rfl, f3.c, ks, h3, rfl⟩
        obtain ⟨hN, hP, -⟩ := W_next h' hF er
        refine mjZ_y rfl rfl 3 _ _ _ _ ty ?_
        refine (And.intro (Nat.le_of_ble_eq_true rfl) (And.intro (fun q => ?_) (fun q => ?_)))
        · refine mjZ_y rfl rfl 3 _ _ _ _ ty ?_
          refine And.intro (fun b => ?_) (fun b => ?_)
          · refine mjZ_y rfl rfl 5 _ _ _ _ ty ?_
            refine (And.intro (Nat.le_of_ble_eq_true rfl) (And.intro (fun c => ?_) (fun c => ?_)))
            · refine mjZ_y rfl rfl 5 _ _ _ _ ty ?_
              refine (And.intro rfl (And.intro rfl (And.intro v3 (And.intro (Nat.le_of_ble_eq_true rfl) ?_))))
              have hc : CUR y (false = true) F2 (u2.2.2.1 r_eNext r.toNatClampNeg) := Or.inl ⟨by decide, hN, F1 ++ [t], by rw [hF, List.append_assoc]; rfl⟩
              exact c_zk_loop _ false h' ty x1 _ r fin F2 _ _ hc
            · refine mjZ_y rfl rfl 5 _ _ _ _ ty ?_
              refine (And.intro rfl (And.intro rfl (And.intro v3 (And.intro (Nat.le_of_ble_eq_true rfl) ?_))))
              have hc : CUR y (true = true) F1.reverse (u2.2.2.1 r_ePrev r.toNatClampNeg) := Or.inr ⟨rfl, by rw [List.reverse_reverse]; exact hP, t :: F2, by rw [List.reverse_reverse]; exact hF⟩
              exact c_zk_loop _ true h' ty x1 _ r fin F1.reverse _ _ hc
          · refine mjZ_y rfl rfl 6 _ _ _ _ ty ?_
            refine (And.intro rfl (And.intro rfl (And.intro v3 (And.intro (Nat.le_of_ble_eq_true rfl) (And.intro rfl (And.intro (Nat.le_of_ble_eq_true rfl) (And.intro (Nat.le_of_ble_eq_true rfl) (mjY_mono ty (fun q_ u3 ty3 h_ => ?_) (w_numberWord h ty _)))))))))
            obtain ⟨rfl, h3, f3⟩ := h_
            intro _
            refine mjZ_y rfl rfl 2 _ _ _ _ ty3 ?_
            refine And.intro rfl (And.intro rfl ?_)
            exact ⟨rfl, f3.c, ks, h3, rfl⟩
        · exact absurd (ge_nI (by omega) er) q
  · refine mjZ_y rfl rfl 4 _ _ _ _ ty ?_
    refine (And.intro (Nat.le_of_ble_eq_true rfl) (And.intro rfl (And.intro (Nat.le_of_ble_eq_true rfl) (And.intro (Nat.le_of_ble_eq_true rfl) (mjY_mono ty (fun q_ u2 ty2 h_ => ?_) (w_many h ty (w := w) rfl))))))
    obtain ⟨rfl, rfl⟩ := h_
    intro _
    refine mjZ_y rfl rfl 2 _ _ _ _ ty ?_
    refine (And.intro (Nat.le_of_ble_eq_true rfl) (And.intro rfl (And.intro (Nat.le_of_ble_eq_true rfl) (And.intro (Nat.le_of_ble_eq_true rfl) (mjY_mono ty (fun q_ u3 ty3 h_ => ?_) (w_number h ty _))))))
    obtain ⟨rfl, h3, f3⟩ := h_
    intro _
    refine mjZ_y rfl rfl 1 _ _ _ _ ty3 ?_
    refine And.intro rfl (And.intro rfl ?_)
    exact ⟨rfl, f3.c, ks, h3, rfl⟩
end READS
