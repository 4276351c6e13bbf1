/-! Texts that are taken, changed and put back: takeText, putText, APPEND. -/
section APPEND
variable {Y : Nat → MethodName × ByteArray} {d : Nat}
/-- what a command leaves: nothing changed, or another store and a note -/
def cmdK (σ : mjS) (ws : List (List Int32)) (ks : List KR) (l : List Int32) (i : Nat) (o : Option (List AK)) : mjK := fun r u => r = none ∧ Fr cF cH σ u ∧ ∃ ks', match o with
  | none => Wd u ws ks' l ∧ strip ks' = strip ks
  | some A => Wd u ws ks' (ntA σ l ws i) ∧ strip ks' = A
def WK (σ : mjS) (t : List Int32) : Prop := σ.1 f_workSize = nI t.length ∧ t.length ≤ 70000 ∧ wd (σ.2.2.1 r_work) 0 t.length = t
theorem WK.fr {σ u : mjS} {fs hs : List Nat} {t : List Int32} (h : WK σ t) (f : Fr fs hs σ u) (h1 : f_workSize ∉ fs) (h2 : r_work ∉ hs) : WK u t := ⟨by rw [f.1 _ h1]; exact h.1, h.2.1, by rw [(f.2.2 _ h2).1]; exact h.2.2⟩
set_option maxRecDepth 100000 in
theorem c_take_loop (K : mjK) (x1 : Int32) (a n k : Nat) (e1 : x1 = nI k) (hk : k < 4700) (han : a + n ≤ 300000) (hn : n ≤ 70000) (H W0 : Nat → Int32) : ∀ (j i : Nat) (σ : mjS) (x2 : Int32), x2 = nI i → i + j = n → mjTY σ → σ.1 f_workSize = nI n → σ.2.2.1 r_heap = H → σ.2.2.1 r_tAt k = nI a → σ.2.2.1 r_work = va_cpy H W0 a 0 i →
    (∀ u, mjTY u → Fr [] [r_work] σ u → u.2.2.1 r_work = va_cpy H W0 a 0 n → K none u) → mjY mjPP (mjQQ Y) d 83 14 [some (.ref 0), some (.int x1), some (.int x2)] [] σ K := by
  have c1 : x1.toNatClampNeg = k := by rw [e1]; exact nI_clamp (by omega)
  have v1 : vp_in x1 4700 := by rw [e1]; exact vp_in_nI hk (by decide)
  intro j
  induction j with
  | zero =>
    intro i σ x2 e2 hi ty ez eH eA eW hK
    have ei : i = n := by omega
    subst ei
    refine mjZ_y rfl rfl 4 _ _ _ _ ty ?_
    refine (And.intro rfl (And.intro (fun q => ?_) (fun q => ?_)))
    · refine mjZ_y rfl rfl 1 _ _ _ _ ty ?_
      refine And.intro rfl (And.intro rfl ?_)
      exact hK σ ty Fr.rf eW
    · exact absurd (show σ.1 f_workSize ≤ x2 by rw [ez, e2]; exact nI_le (Nat.le_refl _) (by omega)) q
  | succ j ih =>
    intro i σ x2 e2 hi ty ez eH eA eW hK
    have e3 : σ.2.2.1 r_tAt x1.toNatClampNeg + x2 = nI (a + i) := by rw [c1, eA, e2, nI_add]
    have w3 : vp_in (σ.2.2.1 r_tAt x1.toNatClampNeg + x2) 300000 := by rw [e3]; exact vp_in_nI (by omega) (by decide)
    refine mjZ_y rfl rfl 4 _ _ _ _ ty ?_
    refine (And.intro rfl (And.intro (fun q => ?_) (fun q => ?_)))
    · exact absurd (show σ.1 f_workSize ≤ x2 from q) (by rw [ez, e2]; exact nI_ge (by omega) (by omega))
    · refine mjZ_y rfl rfl 15 _ _ _ _ ty ?_
      refine (And.intro rfl (And.intro rfl (And.intro rfl (And.intro rfl (And.intro v1 (And.intro (Or.inl rfl) (And.intro w3 (And.intro (Or.inl ⟨rfl, ty.2.1 6 _ rfl⟩) (And.intro (by rw [e2]; exact vp_in_nI (by show i < 70000; omega) (by decide)) (fun ty' => ?_))))))))))
      refine ih (i + 1) _ _ (by rw [e2]; exact nI_1 i) (by omega) ty' ez (eH) (eA) ?_ (fun u tu fu pu => hK u tu ((Fr.a (by decide)).tr fu) pu)
      show mjIu σ.2.2.1 r_work x2.toNatClampNeg (σ.2.2.1 r_heap (σ.2.2.1 r_tAt x1.toNatClampNeg + x2).toNatClampNeg) r_work = _
      rw [mjIu_self, e3, nI_clamp (by omega), eW, e2, nI_clamp (by omega), eH]
      have e := cpy_s (f := H) (g := W0) (sp := a) (dp := 0) (k := i)
      rw [Nat.zero_add] at e
      exact e
def txA (A : List AK) (w : List Int32) : List Int32 := match kyI A w with
  | some p => (match A[p]? with
    | some a => a.2.2.2.2.1
    | none => [])
  | none => []
set_option maxRecDepth 100000 in
theorem w_takeText {σ : mjS} {ws : List (List Int32)} {ks : List KR} {l : List Int32} (h : Wd σ ws ks l) (ty : mjTY σ) {w : List Int32} {xk : Int32} (ek : xk = kyS ks w) (hx : (txA (strip ks) w).length ≤ 70000) : mjY mjPP (mjQQ Y) d 83 0 (mjL0 3 [.ref 0, .int xk]) [] σ (fun r u => r = none ∧ Wd u ws ks l ∧ Fr [f_workSize] [r_work] σ u ∧ WK u (txA (strip ks) w)) := by
  refine mjZ_y rfl rfl 5 _ _ _ _ ty ?_
  refine (And.intro rfl (And.intro (Or.inl rfl) (fun ty' => And.intro (fun q => ?_) (fun q => ?_))))
  · rcases ky_cases ks w with ⟨g1, g2⟩ | ⟨P, x, Q, g0, g1, g2, -⟩
    · exact absurd q (ge_m1 (ek.trans g2))
    · subst g0
      have e1 : xk = nI x.1 := ek.trans g2
      have hid := h.id
      have c1 : xk.toNatClampNeg = x.1 := by rw [e1]; exact nI_clamp (by omega)
      have v1 : vp_in xk 4700 := by rw [e1]; exact vp_in_nI hid (by decide)
      have et : txA (strip (P ++ x :: Q)) w = x.2.2.2.2.2.1 := by unfold txA; rw [g1]; show (match (strip (P ++ x :: Q))[P.length]? with | some a => a.2.2.2.2.1 | none => []) = _; rw [strip_gt]; rfl
      rw [et] at hx ⊢
      obtain ⟨hs, hh, hk⟩ := h.kok (List.mem_append_right P (List.mem_cons_self (a := x) (l := Q)))
      obtain ⟨a, ea, el, ha, ew⟩ := hk.2.2.2.2.2.1.cmp hh
      refine mjZ_y rfl rfl 8 _ _ _ _ ty' ?_
      refine (And.intro rfl (And.intro rfl (And.intro v1 (And.intro rfl (And.intro (Or.inl rfl) (fun ty'' => (And.intro (Nat.le_of_ble_eq_true rfl) ?_)))))))
      refine c_take_loop _ xk a x.2.2.2.2.2.1.length x.1 e1 hid ha hx (σ.2.2.1 r_heap) (σ.2.2.1 r_work) x.2.2.2.2.2.1.length 0 _ _ rfl (by omega) ty'' ?_ rfl ea (by rw [cpy_0]) (fun u tu fu pu => ?_)
      · show σ.2.2.1 r_tLen xk.toNatClampNeg = _
        rw [c1, el]
      · have f0 : Fr [f_workSize] [r_work] σ u := ((Fr.i (by decide)).tr (Fr.i (by decide))).tr (fu.up (fun _ q => by cases q) (by decide))
        refine ⟨rfl, h.fr f0 (by decide) (by decide), f0, ?_, hx, ?_⟩
        · rw [fu.1 _ (by decide)]
          show σ.2.2.1 r_tLen xk.toNatClampNeg = _
          rw [c1, el]
        · rw [pu, cpy_wd, ew]
  · rcases ky_cases ks w with ⟨g1, g2⟩ | ⟨P, x, Q, g0, g1, g2, -⟩
    · refine mjZ_y rfl rfl 1 _ _ _ _ ty' ?_
      refine And.intro rfl (And.intro rfl ?_)
      have f0 : Fr [f_workSize] [r_work] σ (upd σ.1 f_workSize 0, σ.2) := Fr.i (by decide)
      have et : txA (strip ks) w = [] := by unfold txA; rw [g1]
      rw [et]
      exact ⟨rfl, h.fr f0 (by decide) (by decide), f0, (show upd σ.1 f_workSize (Int32.ofInt 0) f_workSize = nI 0 from pk_us), by decide, rfl⟩
    · subst g0
      exact absurd (ge_nI (by have := h.id; omega) (ek.trans g2)) q
def putA (A : List AK) (w t : List Int32) : List AK := upA (orA A w 0).1 (orA A w 0).2 (fun a => (a.1, a.2.1, a.2.2.1, a.2.2.2.1, t, a.2.2.2.2.2))
set_option maxRecDepth 100000 in
theorem w_putText_t (K : mjK) {σ : mjS} {ws : List (List Int32)} {P Q : List KR} {y : KR} {l : List Int32} (h : Wd σ ws (P ++ y :: Q) l) (ty : mjTY σ) {t : List Int32} (hw : WK σ t) (x1 x2 : Int32) (e2 : x2 = nI y.1) (ht : tT (strip (P ++ y :: Q)) ≤ 200000) (hn : tT (strip (P ++ y :: Q)) + t.length ≤ 300000)
    (hK : ∀ u, mjTY u → Wd u ws (P ++ withT y t :: Q) l → Fr kF kH1 σ u → K none u) : mjY mjPP (mjQQ Y) (d + 4) 84 11 [some (.ref 0), some (.int x1), some (.int x2)] [] σ K := by
  obtain ⟨w1, w2, w3⟩ := hw
  refine mjZ_y rfl rfl 8 _ _ _ _ ty ?_
  refine (And.intro rfl (And.intro rfl (And.intro (Nat.le_of_ble_eq_true rfl) (And.intro rfl (And.intro (Nat.le_of_ble_eq_true rfl) (And.intro (Nat.le_of_ble_eq_true rfl) (mjY_mono ty (fun q_ u1 ty1 h_ => ?_) (w_keep h ty r_work 0 t.length rfl (by decide) (by show 0 + t.length ≤ 70000; omega) (by decide) ht hn e2 rfl w1))))))))
  obtain ⟨rfl, h1, f1⟩ := h_
  intro _
  rw [w3] at h1
  refine mjZ_y rfl rfl 3 _ _ _ _ ty1 ?_
  refine (And.intro (Nat.le_of_ble_eq_true rfl) (And.intro rfl (And.intro (Nat.le_of_ble_eq_true rfl) (And.intro (Nat.le_of_ble_eq_true rfl) (mjY_mono ty1 (fun q_ u2 ty2 h_ => ?_) (w_touch h1 ty1 (x := withT y t) (List.mem_append_right _ List.mem_cons_self) e2))))))
  obtain ⟨rfl, h2, f2⟩ := h_
  intro _
  refine mjZ_y rfl rfl 1 _ _ _ _ ty2 ?_
  refine And.intro rfl (And.intro rfl ?_)
  exact hK u2 ty2 h2 ((f1.up (by decide) (by decide)).tr (f2.up (by decide) (by decide)))
set_option maxRecDepth 100000 in
theorem w_putText {σ : mjS} {ws : List (List Int32)} {ks : List KR} {l : List Int32} (h : Wd σ ws ks l) (ty : mjTY σ) {i : Nat} {w t : List Int32} (hw : ws[i]? = some w) (hk : WK σ t) {x1 : Int32} (e1 : x1 = nI i) (ht : tT (strip ks) + w.length ≤ 200000) (hn : tT (strip ks) + w.length + t.length ≤ 300000) (hl : ks.length < 4700) :
    mjY mjPP (mjQQ Y) (d + 4) 84 0 (mjL0 3 [.ref 0, .int x1]) [] σ (fun r u => r = none ∧ Fr kF kH1 σ u ∧ ∃ ks', Wd u ws ks' l ∧ strip ks' = putA (strip ks) w t) := by
  refine mjZ_y rfl rfl 3 _ _ _ _ ty ?_
  refine (And.intro (Nat.le_of_ble_eq_true rfl) (And.intro rfl (And.intro (Nat.le_of_ble_eq_true rfl) (And.intro (Nat.le_of_ble_eq_true rfl) (mjY_mono ty (fun q_ u1 ty1 h_ => ?_) (w_key h ty hw e1))))))
  obtain ⟨rfl, rfl⟩ := h_
  intro _
  refine mjZ_y rfl rfl 3 _ _ _ _ ty1 ?_
  refine (And.intro (Nat.le_of_ble_eq_true rfl) (And.intro (fun q => ?_) (fun q => ?_)))
  · rcases ky_cases ks w with ⟨g1, g2⟩ | ⟨P, y, Q, g0, g1, g2, -⟩
    · exact absurd (show (0 : Int32) ≤ kyS ks w from q) (ge_m1 g2)
    · subst g0
      refine w_putText_t _ h ty1 hk _ _ g2 (by omega) (by omega) (fun u tu hu fu => ⟨rfl, fu, _, hu, ?_⟩)
      unfold putA; rw [orA_some g1]; exact strip_up rfl
  · rcases ky_cases ks w with ⟨g1, g2⟩ | ⟨P, y, Q, g0, g1, g2, -⟩
    · refine mjZ_y rfl rfl 4 _ _ _ _ ty1 ?_
      refine (And.intro (Nat.le_of_ble_eq_true rfl) (And.intro rfl (And.intro (Nat.le_of_ble_eq_true rfl) (And.intro (Nat.le_of_ble_eq_true rfl) (mjY_mono ty1 (fun q_ u2 ty2 h_ => ?_) (w_makeKey h ty1 hw e1 0 (by omega) (by omega) hl))))))
      obtain ⟨P, y, Q, rfl, h2, f2, k1, k2, k3⟩ := h_
      intro _
      refine mjZ_y rfl rfl 1 _ _ _ _ ty2 ?_
      refine (And.intro (Nat.le_of_ble_eq_true rfl) ?_)
      have tb := inA_tT (strip ks) (plF (anm (strip ks)) w) (w, 0, 0, 0, [], [])
      rw [← k1] at tb
      have tb1 : tT (strip (P ++ y :: Q)) = tT (strip ks) + w.length := by rw [tb.1]; show _ + (w.length + 0 + 0 + 0) = _; omega
      refine w_putText_t _ h2 ty2 (hk.fr f2 (by decide) (by decide)) _ _ rfl (by omega) (by omega) (fun u tu hu fu => ⟨rfl, (f2.up (by decide) (by decide)).tr fu, _, hu, ?_⟩)
      unfold putA; rw [orA_none g1]
      have e : strip (P ++ withT y t :: Q) = upA (strip (P ++ y :: Q)) P.length (fun a => (a.1, a.2.1, a.2.2.1, a.2.2.2.1, t, a.2.2.2.2.2)) := strip_up rfl
      rw [e, k1, k2]
    · subst g0
      exact absurd (ge_nI (by have := h.id; omega) g2) q
set_option maxRecDepth 100000 in
theorem c_app_loop (K : mjK) (a n z : Nat) (han : a + n ≤ 131200) (hzn : z + n ≤ 70000) (R W0 : Nat → Int32) : ∀ (j i : Nat) (σ : mjS) (x1 : Int32), x1 = nI i → i + j = n → mjTY σ → σ.1 f_workSize = nI z → σ.2.2.1 r_aLen (Int32.ofInt 2).toNatClampNeg = nI n → σ.2.2.1 r_aAt (Int32.ofInt 2).toNatClampNeg = nI a → σ.2.2.1 r_req = R → σ.2.2.1 r_work = va_cpy R W0 a z i →
    (∀ u x1, mjTY u → Fr [] [r_work] σ u → u.2.2.1 r_work = va_cpy R W0 a z n → mjY mjPP (mjQQ Y) d 86 43 [some (.ref 0), some (.int x1)] [] u K) → mjY mjPP (mjQQ Y) d 86 19 [some (.ref 0), some (.int x1)] [] σ K := by
  have v2 : vp_in (Int32.ofInt 2) 1100 := vp_in_nI (n := 2) (by decide) (by decide)
  intro j
  induction j with
  | zero =>
    intro i σ x1 e1 hi ty ez eL eA eR eW hK
    have ei : i = n := by omega
    subst ei
    refine mjZ_y rfl rfl 6 _ _ _ _ ty ?_
    refine (And.intro rfl (And.intro rfl (And.intro v2 (And.intro (fun q => ?_) (fun q => ?_)))))
    · exact hK σ _ ty Fr.rf eW
    · exact absurd (show σ.2.2.1 r_aLen (Int32.ofInt 2).toNatClampNeg ≤ x1 by rw [eL, e1]; exact nI_le (Nat.le_refl _) (by omega)) q
  | succ j ih =>
    intro i σ x1 e1 hi ty ez eL eA eR eW hK
    have e3 : σ.2.2.1 r_aAt (Int32.ofInt 2).toNatClampNeg + x1 = nI (a + i) := by rw [eA, e1, nI_add]
    have e4 : σ.1 f_workSize + x1 = nI (z + i) := by rw [ez, e1, nI_add]
    have w3 : vp_in (σ.2.2.1 r_aAt (Int32.ofInt 2).toNatClampNeg + x1) 131200 := by rw [e3]; exact vp_in_nI (by omega) (by decide)
    refine mjZ_y rfl rfl 6 _ _ _ _ ty ?_
    refine (And.intro rfl (And.intro rfl (And.intro v2 (And.intro (fun q => ?_) (fun q => ?_)))))
    · exact absurd (show σ.2.2.1 r_aLen (Int32.ofInt 2).toNatClampNeg ≤ x1 from q) (by rw [eL, e1]; exact nI_ge (by omega) (by omega))
    · refine mjZ_y rfl rfl 18 _ _ _ _ ty ?_
      refine (And.intro rfl (And.intro rfl (And.intro rfl (And.intro rfl (And.intro rfl (And.intro v2 (And.intro (Or.inl rfl) (And.intro w3 (And.intro (Or.inl ⟨rfl, ty.2.1 27 _ rfl⟩) (And.intro (show vp_in (σ.1 f_workSize + x1) 70000 by rw [e4]; exact vp_in_nI (by omega) (by decide)) (fun ty' => ?_)))))))))))
      refine ih (i + 1) _ _ (by rw [e1]; exact nI_1 i) (by omega) ty' ez (eL) (eA) (eR) ?_ (fun u x tu fu pu => hK u x tu ((Fr.a (by decide)).tr fu) pu)
      show mjIu σ.2.2.1 r_work (σ.1 f_workSize + x1).toNatClampNeg (σ.2.2.1 r_req (σ.2.2.1 r_aAt (Int32.ofInt 2).toNatClampNeg + x1).toNatClampNeg) r_work = _
      rw [mjIu_self, e3, nI_clamp (by omega), eW, e4, nI_clamp (by omega), eR]
      exact cpy_s
/-- APPEND -/
def apF (A : List AK) (w v : List Int32) : Option (List AK) := if (txA A w).length + v.length ≤ 16384 then some (putA A w (txA A w ++ v)) else none
set_option maxRecDepth 100000 in
theorem r_append {σ : mjS} {ws : List (List Int32)} {ks : List KR} {l : List Int32} (h : Wd σ ws ks l) (ty : mjTY σ) {w v : List Int32} (h1 : ws[1]? = some w) (h2 : ws[2]? = some v) (hx : (txA (strip ks) w).length ≤ 16384) (hvl : v.length ≤ 16384) (ht : tT (strip ks) + w.length ≤ 200000) (hn : tT (strip ks) + w.length + 16384 ≤ 300000) (hl : ks.length < 4700) (hs : l.length + 132 + sz ws ≤ 420000) :
    mjY mjPP (mjQQ Y) (d + 6) 86 0 (mjL0 2 [.ref 0]) [] σ (cmdK σ ws ks l 11 (apF (strip ks) w v)) := by
  have hlen : 1 ≤ ws.length := by have := (List.getElem?_eq_some_iff.mp h1).1; omega
  refine mjZ_y rfl rfl 4 _ _ _ _ ty ?_
  refine (And.intro (Nat.le_of_ble_eq_true rfl) (And.intro rfl (And.intro (Nat.le_of_ble_eq_true rfl) (And.intro (Nat.le_of_ble_eq_true rfl) (mjY_mono ty (fun q_ u1 ty1 h_ => ?_) (w_key h ty h1 (x := Int32.ofInt 1) rfl))))))
  obtain ⟨rfl, rfl⟩ := h_
  intro _
  refine mjZ_y rfl rfl 1 _ _ _ _ ty1 ?_
  refine (And.intro (Nat.le_of_ble_eq_true rfl) (And.intro rfl (And.intro (Nat.le_of_ble_eq_true rfl) (And.intro (Nat.le_of_ble_eq_true rfl) (mjY_mono ty1 (fun q_ u2 ty2 h_ => ?_) (w_takeText h ty1 (w := w) rfl (by omega)))))))
  obtain ⟨rfl, h3, f3, k3⟩ := h_
  intro _
  obtain ⟨v2, a, ea, el, ha, ew⟩ := h3.2.1.clamp h2 (x := Int32.ofInt 2) rfl
  have es : u2.1 f_workSize + u2.2.2.1 r_aLen (Int32.ofInt 2).toNatClampNeg = nI ((txA (strip ks) w).length + v.length) := by rw [k3.1, el, nI_add]
  refine mjZ_y rfl rfl 9 _ _ _ _ ty2 ?_
  refine (And.intro rfl (And.intro rfl (And.intro rfl (And.intro v2 (And.intro (fun q => ?_) (fun q => ?_))))))
  · have q : nI ((txA (strip ks) w).length + v.length) ≤ nI 16384 := by rw [← es]; exact q
    have q2 := (nI_leI (by omega) (by decide)).mp q
    have eo : apF (strip ks) w v = some (putA (strip ks) w (txA (strip ks) w ++ v)) := if_pos q2
    rw [eo]
    refine mjZ_y rfl rfl 2 _ _ _ _ ty2 ?_
    refine (And.intro (Nat.le_of_ble_eq_true rfl) ?_)
    refine c_app_loop _ a v.length _ ha (by omega) (u2.2.2.1 r_req) (u2.2.2.1 r_work) v.length 0 u2 _ rfl (by omega) ty2 k3.1 el ea rfl (by rw [cpy_0]) (fun u3 x1 ty3 f4 e4 => ?_)
    have h4 := h3.fr f4 (by decide) (by decide)
    have el3 : u3.2.2.1 r_aLen (Int32.ofInt 2).toNatClampNeg = nI v.length := by rw [(f4.2.2 _ (by decide)).1]; exact el
    have ez3 : u3.1 f_workSize = nI (txA (strip ks) w).length := by rw [f4.1 _ (by decide)]; exact k3.1
    refine mjZ_y rfl rfl 9 _ _ _ _ ty3 ?_
    refine (And.intro rfl (And.intro rfl (And.intro rfl (And.intro v2 (And.intro rfl (And.intro (Or.inl rfl) (fun ty3' => ?_)))))))
    have f5 : Fr [f_workSize] [] u3 (upd u3.1 f_workSize (u3.1 f_workSize + u3.2.2.1 r_aLen (Int32.ofInt 2).toNatClampNeg), u3.2) := Fr.i (by decide)
    have h5 := h4.fr f5 (by decide) (by decide)
    have k5 : WK (upd u3.1 f_workSize (u3.1 f_workSize + u3.2.2.1 r_aLen (Int32.ofInt 2).toNatClampNeg), u3.2) (txA (strip ks) w ++ v) := by
      refine ⟨?_, by rw [List.length_append]; omega, ?_⟩
      · show u3.1 f_workSize + u3.2.2.1 r_aLen (Int32.ofInt 2).toNatClampNeg = _
        rw [ez3, el3, nI_add, List.length_append]
      · show wd (u3.2.2.1 r_work) 0 _ = _
        rw [e4, List.length_append, wd_app, Nat.zero_add, cpy_wd, ew]
        congr 1
        refine Eq.trans (wd_congr fun k hk => ?_) k3.2.2
        exact cpy_lo (by omega)
    refine mjZ_y rfl rfl 3 _ _ _ _ ty3' ?_
    refine (And.intro (Nat.le_of_ble_eq_true rfl) (And.intro rfl (And.intro (Nat.le_of_ble_eq_true rfl) (And.intro (Nat.le_of_ble_eq_true rfl) (mjY_mono ty3' (fun q_ u4 ty4 h_ => ?_) (w_putText h5 ty3' h1 k5 (x1 := Int32.ofInt 1) rfl ht (by rw [List.length_append]; omega) hl))))))
    obtain ⟨rfl, f6, ks', h6, e6⟩ := h_
    intro _
    refine mjZ_y rfl rfl 3 _ _ _ _ ty4 ?_
    refine (And.intro (Nat.le_of_ble_eq_true rfl) (And.intro rfl (And.intro (Nat.le_of_ble_eq_true rfl) (And.intro (Nat.le_of_ble_eq_true rfl) (mjY_mono ty4 (fun q_ u5 ty5 h_ => ?_) (w_noteAll h6 ty4 hlen 11 rfl (by decide) hs))))))
    obtain ⟨rfl, h7, f7⟩ := h_
    intro _
    refine mjZ_y rfl rfl 5 _ _ _ _ ty5 ?_
    refine (And.intro rfl (And.intro (Nat.le_of_ble_eq_true rfl) (And.intro rfl (And.intro (Nat.le_of_ble_eq_true rfl) (And.intro (Nat.le_of_ble_eq_true rfl) (mjY_mono ty5 (fun q_ u6 ty6 h_ => ?_) (w_number h7 ty5 _)))))))
    obtain ⟨rfl, h8, f8⟩ := h_
    intro _
    refine mjZ_y rfl rfl 1 _ _ _ _ ty6 ?_
    refine And.intro rfl (And.intro rfl ?_)
    have fa : Fr cF cH u1 u4 := (((f3.up (by decide) (by decide)).tr (f4.up (by decide) (by decide))).tr (f5.up (by decide) (by decide))).tr f6.k1
    refine ⟨rfl, (fa.tr f7.n).tr f8.c, ks', ?_, e6⟩
    rw [ntA_fr fa] at h8
    exact h8
  · have q2 : ¬ (txA (strip ks) w).length + v.length ≤ 16384 := fun c => q (show u2.1 f_workSize + u2.2.2.1 r_aLen (Int32.ofInt 2).toNatClampNeg ≤ nI 16384 by rw [es]; exact nI_le c (by decide))
    have eo : apF (strip ks) w v = none := if_neg q2
    rw [eo]
    refine mjZ_y rfl rfl 2 _ _ _ _ ty2 ?_
    refine (And.intro (Nat.le_of_ble_eq_true rfl) (And.intro rfl (And.intro (Nat.le_of_ble_eq_true rfl) (And.intro (Nat.le_of_ble_eq_true rfl) (mjY_mono ty2 (fun q_ u3 ty3 h_ => ?_) (w_tooGreat h3 ty2))))))
    obtain ⟨rfl, h4, f4⟩ := h_
    intro _
    refine mjZ_y rfl rfl 1 _ _ _ _ ty3 ?_
    refine And.intro rfl (And.intro rfl ?_)
    exact ⟨rfl, (f3.up (by decide) (by decide)).tr f4.c, ks, h4, rfl⟩
end APPEND
