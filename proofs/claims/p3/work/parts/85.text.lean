/-! Texts: makeOr, setText, wordOf, takeText, putText. -/
section TEXT
variable {Y : Nat → MethodName × ByteArray} {d : Nat}
theorem ge_m1 {x : Int32} (e : x = -1) : ¬ (0 : Int32) ≤ x := by rw [e]; decide
theorem ge_nI {x : Int32} {k : Nat} (hk : k < 2 ^ 30) (e : x = nI k) : (0 : Int32) ≤ x := by rw [e]; exact nI_le (a := 0) (Nat.zero_le k) (by omega)
theorem lt_m1 {x : Int32} (e : x = -1) : x < (0 : Int32) := by rw [e]; decide
theorem lt_nI {x : Int32} {k : Nat} (hk : k < 2 ^ 30) (e : x = nI k) : ¬ x < (0 : Int32) := by rw [e]; exact nI_n0 hk
theorem Wd.id {σ : mjS} {ws : List (List Int32)} {P Q : List KR} {x : KR} {l : List Int32} (h : Wd σ ws (P ++ x :: Q) l) : x.1 < 4700 := (h.kok (List.mem_append_right _ List.mem_cons_self)).elim fun _ k => k.2.1
theorem Wd.eid {σ : mjS} {ws : List (List Int32)} {P Q : List KR} {x : KR} {l : List Int32} (h : Wd σ ws (P ++ x :: Q) l) {y : ER} (hy : y ∈ x.2.2.2.2.2.2) : ∃ hs, hs ≤ 300000 ∧ EOK σ hs y := (h.kok (List.mem_append_right _ List.mem_cons_self)).elim fun hs k => ⟨hs, k.1, k.2.2.2.2.2.2.2.2.2.2.2 y hy⟩
theorem Wd.sort {σ : mjS} {ws : List (List Int32)} {P Q : List KR} {x : KR} {l : List Int32} (h : Wd σ ws (P ++ x :: Q) l) {c : Nat} (hc : c = x.1) (v : Int32) : Wd (σ.1, σ.2.1, mjIu σ.2.2.1 r_kSort c v, σ.2.2.2) ws (P ++ (x.1, x.2.1, v, x.2.2.2.1, x.2.2.2.2.1, x.2.2.2.2.2.1, x.2.2.2.2.2.2) :: Q) l := by
  obtain ⟨hs, fk, fe, k⟩ := h.1
  have ko := k.2.2.2.2.1 x (List.mem_append_right _ List.mem_cons_self)
  have f : Fr [] atR σ (σ.1, σ.2.1, mjIu σ.2.2.1 r_kSort c v, σ.2.2.2) := Fr.a (by decide)
  refine h.ks f ⟨hs, fk, fe, ?_⟩ (by decide) (by decide)
  have k' := ks_attr k f (fun j hj => ⟨fun g _ => by show mjIu σ.2.2.1 r_kSort c v g j = _; rw [mjIu_at, if_neg (fun q => hj (q.2.trans hc))], rfl⟩)
  have e1 : mjIu σ.2.2.1 r_kSort c v r_kSort x.1 = v := by rw [mjIu_s, if_pos hc.symm]
  have e2 : mjIu σ.2.2.1 r_kSort c v r_kTimed x.1 = x.2.2.2.1 := by rw [mjIu_ne (by decide)]; exact ko.2.2.2.1
  have e3 : σ.2.2.2 r_kTime x.1 = x.2.2.2.2.1 := ko.2.2.2.2.1
  dsimp only at k'
  rw [e1, e2, e3] at k'
  exact k'
theorem Wd.timed {σ : mjS} {ws : List (List Int32)} {P Q : List KR} {x : KR} {l : List Int32} (h : Wd σ ws (P ++ x :: Q) l) {c : Nat} (hc : c = x.1) (v : Int32) : Wd (σ.1, σ.2.1, mjIu σ.2.2.1 r_kTimed c v, σ.2.2.2) ws (P ++ (x.1, x.2.1, x.2.2.1, v, x.2.2.2.2.1, x.2.2.2.2.2.1, x.2.2.2.2.2.2) :: Q) l := by
  obtain ⟨hs, fk, fe, k⟩ := h.1
  have ko := k.2.2.2.2.1 x (List.mem_append_right _ List.mem_cons_self)
  have f : Fr [] atR σ (σ.1, σ.2.1, mjIu σ.2.2.1 r_kTimed c v, σ.2.2.2) := Fr.a (by decide)
  refine h.ks f ⟨hs, fk, fe, ?_⟩ (by decide) (by decide)
  have k' := ks_attr k f (fun j hj => ⟨fun g _ => by show mjIu σ.2.2.1 r_kTimed c v g j = _; rw [mjIu_at, if_neg (fun q => hj (q.2.trans hc))], rfl⟩)
  have e1 : mjIu σ.2.2.1 r_kTimed c v r_kTimed x.1 = v := by rw [mjIu_s, if_pos hc.symm]
  have e2 : mjIu σ.2.2.1 r_kTimed c v r_kSort x.1 = x.2.2.1 := by rw [mjIu_ne (by decide)]; exact ko.2.2.1
  have e3 : σ.2.2.2 r_kTime x.1 = x.2.2.2.2.1 := ko.2.2.2.2.1
  dsimp only at k'
  rw [e1, e2, e3] at k'
  exact k'
theorem Wd.time {σ : mjS} {ws : List (List Int32)} {P Q : List KR} {x : KR} {l : List Int32} (h : Wd σ ws (P ++ x :: Q) l) {c : Nat} (hc : c = x.1) (v : Int64) : Wd (σ.1, σ.2.1, σ.2.2.1, mjLu σ.2.2.2 r_kTime c v) ws (P ++ (x.1, x.2.1, x.2.2.1, x.2.2.2.1, v, x.2.2.2.2.2.1, x.2.2.2.2.2.2) :: Q) l := by
  obtain ⟨hs, fk, fe, k⟩ := h.1
  have ko := k.2.2.2.2.1 x (List.mem_append_right _ List.mem_cons_self)
  have f : Fr [] atR σ (σ.1, σ.2.1, σ.2.2.1, mjLu σ.2.2.2 r_kTime c v) := Fr.j (by decide)
  refine h.ks f ⟨hs, fk, fe, ?_⟩ (by decide) (by decide)
  have k' := ks_attr k f (fun j hj => ⟨fun g _ => rfl, by show mjLu σ.2.2.2 r_kTime c v r_kTime j = _; rw [mjLu_s, if_neg (fun q => hj (q.trans hc))]⟩)
  have e1 : mjLu σ.2.2.2 r_kTime c v r_kTime x.1 = v := by rw [mjLu_s, if_pos hc.symm]
  have e2 : σ.2.2.1 r_kSort x.1 = x.2.2.1 := ko.2.2.1
  have e3 : σ.2.2.1 r_kTimed x.1 = x.2.2.2.1 := ko.2.2.2.1
  dsimp only at k'
  rw [e1, e2, e3] at k'
  exact k'
/-- the key of this name, made if it is wanting -/
def orA (A : List AK) (w : List Int32) (s : Int32) : List AK × Nat := match kyI A w with
  | some p => (A, p)
  | none => (inA A (plF (anm A) w) (w, s, 0, 0, [], []), plF (anm A) w)
set_option maxRecDepth 100000 in
theorem w_makeOr {σ : mjS} {ws : List (List Int32)} {ks : List KR} {l : List Int32} (h : Wd σ ws ks l) (ty : mjTY σ) {i : Nat} {w : List Int32} (hw : ws[i]? = some w) {x : Int32} (ex : x = nI i) (s : Int32) (ht : tT (strip ks) ≤ 200000) (hn : tT (strip ks) + w.length ≤ 300000) (hk : ks.length < 4700) :
    mjY mjPP (mjQQ Y) (d + 4) 103 0 (mjL0 4 [.ref 0, .int x, .int s]) [] σ (fun r u => ∃ P y Q, r = some (.int (nI y.1)) ∧ Wd u ws (P ++ y :: Q) l ∧ Fr kF kH σ u ∧ strip (P ++ y :: Q) = (orA (strip ks) w s).1 ∧ P.length = (orA (strip ks) w s).2) := by
  refine mjZ_y rfl rfl 3 _ _ _ _ ty ?_
  refine (And.intro (Nat.le_of_ble_eq_true rfl) (And.intro rfl (And.intro (Nat.le_of_ble_eq_true rfl) (And.intro (Nat.le_of_ble_eq_true rfl) (mjY_mono ty (fun q_ u1 ty1 h_ => ?_) (w_key h ty hw ex))))))
  obtain ⟨rfl, rfl⟩ := h_
  intro _
  refine mjZ_y rfl rfl 3 _ _ _ _ ty1 ?_
  refine (And.intro (Nat.le_of_ble_eq_true rfl) (And.intro (fun q => ?_) (fun q => ?_)))
  · rcases ky_cases ks w with ⟨e1, e2⟩ | ⟨P, y, Q, e0, e1, e2, -⟩
    · exact absurd (show (0 : Int32) ≤ kyS ks w from q) (ge_m1 e2)
    · subst e0
      refine mjZ_y rfl rfl 2 _ _ _ _ ty1 ?_
      refine And.intro rfl (And.intro (Or.inl rfl) ?_)
      refine ⟨P, y, Q, congrArg (fun t => some (Value.int t)) e2, h, Fr.rf, ?_, ?_⟩
      · unfold orA; rw [e1]
      · unfold orA; rw [e1]
  · rcases ky_cases ks w with ⟨e1, e2⟩ | ⟨P, y, Q, e0, e1, e2, -⟩
    · refine mjZ_y rfl rfl 4 _ _ _ _ ty1 ?_
      refine (And.intro (Nat.le_of_ble_eq_true rfl) (And.intro rfl (And.intro (Nat.le_of_ble_eq_true rfl) (And.intro (Nat.le_of_ble_eq_true rfl) (mjY_mono ty1 (fun q_ u2 ty2 h_ => ?_) (w_makeKey h ty1 hw ex s ht hn hk))))))
      obtain ⟨P, y, Q, rfl, h2, f2, g1, g2, g3⟩ := h_
      intro _
      refine mjZ_y rfl rfl 3 _ _ _ _ ty2 ?_
      refine (And.intro (Nat.le_of_ble_eq_true rfl) (And.intro rfl (And.intro (Or.inl rfl) ?_)))
      refine ⟨P, y, Q, rfl, h2, f2, ?_, ?_⟩
      · unfold orA; rw [e1]; exact g1
      · unfold orA; rw [e1]; exact g2
    · subst e0
      exact absurd (ge_nI (by have := h.id; omega) e2) q
set_option maxRecDepth 100000 in
/-- the text of a key is told, or nil -/
theorem w_wordOf {σ : mjS} {ws : List (List Int32)} {ks : List KR} {l : List Int32} (h : Wd σ ws ks l) (ty : mjTY σ) {xk : Int32} (ek : xk = -1 ∨ ∃ x ∈ ks, xk = nI x.1) : mjY mjPP (mjQQ Y) (d + 3) 77 0 (mjL0 2 [.ref 0, .int xk]) [] σ (fun r u => r = none ∧ Wd u ws ks l ∧ oO σ u) := by
  refine mjZ_y rfl rfl 2 _ _ _ _ ty ?_
  refine And.intro (fun q => ?_) (fun q => ?_)
  · rcases ek with ek | ⟨x, hx, ek⟩
    · exact absurd q (ge_m1 ek)
    · obtain ⟨hs, hh, hk⟩ := h.kok hx
      have vk : vp_in xk 4700 := by rw [ek]; exact vp_in_nI hk.1 (by decide)
      refine mjZ_y rfl rfl 12 _ _ _ _ ty ?_
      refine (And.intro rfl (And.intro rfl (And.intro rfl (And.intro vk (And.intro rfl (And.intro rfl (And.intro vk (And.intro (Nat.le_of_ble_eq_true rfl) (And.intro rfl (And.intro (Nat.le_of_ble_eq_true rfl) (And.intro (Nat.le_of_ble_eq_true rfl) (mjY_mono ty (fun q_ u1 ty1 h_ => ?_) (w_wordR h ty hk.2.2.2.2.2.1 hh (by have := hk.1; omega) ek)))))))))))))
      obtain ⟨rfl, h1, f1⟩ := h_
      intro _
      refine mjZ_y rfl rfl 1 _ _ _ _ ty1 ?_
      refine And.intro rfl (And.intro rfl ?_)
      exact ⟨rfl, h1, f1⟩
  · refine mjZ_y rfl rfl 2 _ _ _ _ ty ?_
    refine (And.intro (Nat.le_of_ble_eq_true rfl) (And.intro rfl (And.intro (Nat.le_of_ble_eq_true rfl) (And.intro (Nat.le_of_ble_eq_true rfl) (mjY_mono ty (fun q_ u1 ty1 h_ => ?_) (w_nil h ty))))))
    obtain ⟨rfl, h1, f1⟩ := h_
    intro _
    refine mjZ_y rfl rfl 2 _ _ _ _ ty1 ?_
    refine And.intro rfl (And.intro rfl ?_)
    exact ⟨rfl, h1, f1⟩
theorem orA_some {A : List AK} {w : List Int32} {s : Int32} {p : Nat} (h : kyI A w = some p) : orA A w s = (A, p) := by unfold orA; rw [h]
theorem orA_none {A : List AK} {w : List Int32} {s : Int32} (h : kyI A w = none) : orA A w s = (inA A (plF (anm A) w) (w, s, 0, 0, [], []), plF (anm A) w) := by unfold orA; rw [h]
def setA (A : List AK) (w v : List Int32) : List AK := upA (orA A w 0).1 (orA A w 0).2 (fun a => (a.1, 0, a.2.2.1, a.2.2.2.1, v, []))
set_option maxRecDepth 100000 in
theorem w_setText_t (K : mjK) {σ : mjS} {ws : List (List Int32)} {P Q : List KR} {y : KR} {l : List Int32} (h : Wd σ ws (P ++ y :: Q) l) (ty : mjTY σ) {j : Nat} {v : List Int32} (hv : ws[j]? = some v) (x1 x2 x3 : Int32) (e2 : x2 = nI j) (e3 : x3 = nI y.1) (ht : tT (strip (P ++ y :: Q)) ≤ 200000) (hn : tT (strip (P ++ y :: Q)) + v.length ≤ 300000)
    (hK : ∀ u, mjTY u → Wd u ws (P ++ withT y v :: Q) l → Fr kF kH1 σ u → K (some (.int (nI y.1))) u) : mjY mjPP (mjQQ Y) (d + 4) 76 20 [some (.ref 0), some (.int x1), some (.int x2), some (.int x3)] [] σ K := by
  obtain ⟨v2, a, ea, el, ha, ew⟩ := h.2.1.clamp hv e2
  refine mjZ_y rfl rfl 13 _ _ _ _ ty ?_
  refine (And.intro rfl (And.intro rfl (And.intro rfl (And.intro v2 (And.intro rfl (And.intro rfl (And.intro v2 (And.intro (Nat.le_of_ble_eq_true rfl) (And.intro rfl (And.intro (Nat.le_of_ble_eq_true rfl) (And.intro (Nat.le_of_ble_eq_true rfl) (mjY_mono ty (fun q_ u1 ty1 h_ => ?_) (w_keep h ty r_req a v.length rfl (by decide) ha (by decide) ht hn e3 ea el)))))))))))))
  obtain ⟨rfl, h1, f1⟩ := h_
  intro _
  rw [ew] at h1
  refine mjZ_y rfl rfl 3 _ _ _ _ ty1 ?_
  refine (And.intro (Nat.le_of_ble_eq_true rfl) (And.intro rfl (And.intro (Nat.le_of_ble_eq_true rfl) (And.intro (Nat.le_of_ble_eq_true rfl) (mjY_mono ty1 (fun q_ u2 ty2 h_ => ?_) (w_touch h1 ty1 (x := withT y v) (List.mem_append_right _ List.mem_cons_self) e3))))))
  obtain ⟨rfl, h2, f2⟩ := h_
  intro _
  refine mjZ_y rfl rfl 2 _ _ _ _ ty2 ?_
  refine And.intro rfl (And.intro (Or.inl rfl) ?_)
  rw [e3]
  exact hK u2 ty2 h2 ((f1.up (by decide) (by decide)).tr (f2.up (by decide) (by decide)))
set_option maxRecDepth 100000 in
theorem w_setText {σ : mjS} {ws : List (List Int32)} {ks : List KR} {l : List Int32} (h : Wd σ ws ks l) (ty : mjTY σ) {i j : Nat} {w v : List Int32} (hw : ws[i]? = some w) (hv : ws[j]? = some v) {x1 x2 : Int32} (e1 : x1 = nI i) (e2 : x2 = nI j) (ht : tT (strip ks) + w.length ≤ 200000) (hn : tT (strip ks) + w.length + v.length ≤ 300000) (hk : ks.length < 4700) :
    mjY mjPP (mjQQ Y) (d + 4) 76 0 (mjL0 4 [.ref 0, .int x1, .int x2]) [] σ (fun r u => ∃ P y Q, r = some (.int (nI y.1)) ∧ Wd u ws (P ++ y :: Q) l ∧ Fr kF kH1 σ u ∧ strip (P ++ y :: Q) = setA (strip ks) w v ∧ P.length = (orA (strip ks) w 0).2) := by
  refine mjZ_y rfl rfl 3 _ _ _ _ ty ?_
  refine (And.intro (Nat.le_of_ble_eq_true rfl) (And.intro rfl (And.intro (Nat.le_of_ble_eq_true rfl) (And.intro (Nat.le_of_ble_eq_true rfl) (mjY_mono ty (fun q_ u1 ty1 h_ => ?_) (w_key h ty hw e1))))))
  obtain ⟨rfl, rfl⟩ := h_
  intro _
  refine mjZ_y rfl rfl 3 _ _ _ _ ty1 ?_
  refine (And.intro (Nat.le_of_ble_eq_true rfl) (And.intro (fun q => ?_) (fun q => ?_)))
  · rcases ky_cases ks w with ⟨g1, g2⟩ | ⟨P, y, Q, g0, g1, g2, -⟩
    · exact absurd (show (0 : Int32) ≤ kyS ks w from q) (ge_m1 g2)
    · subst g0
      have e3 : kyS (P ++ y :: Q) w = nI y.1 := g2
      generalize kyS (P ++ y :: Q) w = x3 at e3
      refine mjZ_y rfl rfl 3 _ _ _ _ ty1 ?_
      refine (And.intro (Nat.le_of_ble_eq_true rfl) (And.intro rfl (And.intro (Nat.le_of_ble_eq_true rfl) (And.intro (Nat.le_of_ble_eq_true rfl) (mjY_mono ty1 (fun q_ u2 ty2 h_ => ?_) (w_empty h ty1 e3))))))
      obtain ⟨rfl, h2, f2⟩ := h_
      intro _
      have hy := h.id
      have v3 : vp_in x3 4700 := by rw [e3]; exact vp_in_nI hy (by decide)
      have c3 : x3.toNatClampNeg = y.1 := by rw [e3]; exact nI_clamp (by omega)
      refine mjZ_y rfl rfl 5 _ _ _ _ ty2 ?_
      refine (And.intro rfl (And.intro rfl (And.intro v3 (fun ty2' => ?_))))
      have h3 := h2.sort (x := bare y y.2.2.1) c3 0
      have tb : tT (strip (P ++ bare (bare y y.2.2.1) 0 :: Q)) ≤ tT (strip (P ++ y :: Q)) := by
        rw [strip_app, strip_cons, strip_app, strip_cons, tT_app, tT_app]
        show _ + (y.2.1.length + 0 + 0 + _) ≤ _ + (y.2.1.length + y.2.2.2.2.2.1.length + eT _ + _)
        omega
      have tb2 : tT (strip (P ++ bare (bare y y.2.2.1) 0 :: Q)) + v.length ≤ 300000 := by omega
      refine w_setText_t _ h3 ty2' hv _ _ _ e2 e3 (Nat.le_trans tb (by omega)) tb2 (fun u tu hu fu => ⟨P, withT (bare (bare y y.2.2.1) 0) v, Q, rfl, hu, (f2.up (by decide) (by decide)).tr ((Fr.a (by decide)).tr fu), ?_, ?_⟩)
      · unfold setA; rw [orA_some g1]; exact strip_up rfl
      · rw [orA_some g1]
  · rcases ky_cases ks w with ⟨g1, g2⟩ | ⟨P, y, Q, g0, g1, g2, -⟩
    · refine mjZ_y rfl rfl 4 _ _ _ _ ty1 ?_
      refine (And.intro (Nat.le_of_ble_eq_true rfl) (And.intro rfl (And.intro (Nat.le_of_ble_eq_true rfl) (And.intro (Nat.le_of_ble_eq_true rfl) (mjY_mono ty1 (fun q_ u2 ty2 h_ => ?_) (w_makeKey h ty1 hw e1 0 (by omega) (by omega) hk))))))
      obtain ⟨P, y, Q, rfl, h2, f2, k1, k2, k3⟩ := h_
      intro _
      refine mjZ_y rfl rfl 2 _ _ _ _ ty2 ?_
      refine (And.intro (Nat.le_of_ble_eq_true rfl) ?_)
      have tb := inA_tT (strip ks) (plF (anm (strip ks)) w) (w, 0, 0, 0, [], [])
      rw [← k1] at tb
      have tb1 : tT (strip (P ++ y :: Q)) = tT (strip ks) + w.length := by rw [tb.1]; show _ + (w.length + 0 + 0 + 0) = _; omega
      refine w_setText_t _ h2 ty2 hv _ _ _ e2 rfl (by omega) (by omega) (fun u tu hu fu => ⟨P, withT y v, Q, rfl, hu, (f2.up (by decide) (by decide)).tr fu, ?_, ?_⟩)
      · unfold setA; rw [orA_none g1]
        have e : strip (P ++ withT y v :: Q) = upA (strip (P ++ y :: Q)) P.length (fun a => (a.1, 0, a.2.2.1, a.2.2.2.1, v, [])) := strip_up (by rw [show st1 (withT y v) = ((st1 y).1, (st1 y).2.1, (st1 y).2.2.1, (st1 y).2.2.2.1, v, (st1 y).2.2.2.2.2) from rfl, k3])
        rw [e, k1, k2]
      · rw [orA_none g1]; exact k2
    · subst g0
      exact absurd (ge_nI (by have := h.id; omega) g2) q
end TEXT
