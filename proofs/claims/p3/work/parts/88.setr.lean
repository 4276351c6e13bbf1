/-! SETRANGE and SETBIT. -/
section SETR
variable {Y : Nat → MethodName × ByteArray} {d : Nat}
theorem wk_push {σ : mjS} {t : List Int32} (h : WK σ t) (ht : t.length < 70000) (b : Int32) (c : Nat) (hc : c = t.length) : WK (upd σ.1 f_workSize (nI (t.length + 1)), σ.2.1, mjIu σ.2.2.1 r_work c b, σ.2.2.2) (t ++ [b]) := by
  refine ⟨?_, by rw [List.length_append]; exact ht, ?_⟩
  · rw [List.length_append]; show nI (t.length + 1) = _; rfl
  · show wd (mjIu σ.2.2.1 r_work c b r_work) 0 _ = _
    rw [List.length_append, hc]
    show wd (mjIu σ.2.2.1 r_work t.length b r_work) 0 (t.length + 1) = _
    rw [wd_iu, h.2.2]
set_option maxRecDepth 100000 in
theorem c_sr_pad (K : mjK) (o1 : Value) (e : Nat) (he : e ≤ 70000) (x2 : Int32) (e2 : x2 = nI e) : ∀ (j : Nat) (t : List Int32) (σ : mjS), j = e - t.length → mjTY σ → WK σ t →
    (∀ u, mjTY u → Fr [f_workSize] [r_work] σ u → WK u (t ++ List.replicate j 0) → mjY mjPP (mjQQ Y) d 87 63 [some (.ref 0), some o1, some (.int x2), none] [] u K) → mjY mjPP (mjQQ Y) d 87 46 [some (.ref 0), some o1, some (.int x2), none] [] σ K := by
  intro j
  induction j with
  | zero =>
    intro t σ hj ty hw hK
    have := hw.2.1
    refine mjZ_y rfl rfl 4 _ _ _ _ ty ?_
    refine (And.intro rfl (And.intro (fun q => ?_) (fun q => ?_)))
    · exact hK σ ty Fr.rf (by rw [List.replicate_zero, List.append_nil]; exact hw)
    · exact absurd (show x2 ≤ σ.1 f_workSize by rw [hw.1, e2]; exact nI_le (by omega) (by omega)) q
  | succ j ih =>
    intro t σ hj ty hw hK
    have ct : (σ.1 f_workSize).toNatClampNeg = t.length := by rw [hw.1]; exact nI_clamp (by omega)
    refine mjZ_y rfl rfl 4 _ _ _ _ ty ?_
    refine (And.intro rfl (And.intro (fun q => ?_) (fun q => ?_)))
    · exact absurd (show x2 ≤ σ.1 f_workSize from q) (by rw [hw.1, e2]; exact nI_ge (by omega) (by omega))
    · refine mjZ_y rfl rfl 13 _ _ _ _ ty ?_
      refine (And.intro rfl (And.intro rfl (And.intro (Or.inl ⟨rfl, rfl⟩) (And.intro (show vp_in (σ.1 f_workSize) 70000 by rw [hw.1]; exact vp_in_nI (by omega) (by decide)) (fun ty' => (And.intro rfl (And.intro rfl (And.intro (Or.inl rfl) (fun ty'' => ?_)))))))))
      have go : ∀ u : mjS, mjTY u → u = (upd σ.1 f_workSize (nI (t.length + 1)), σ.2.1, mjIu σ.2.2.1 r_work (σ.1 f_workSize).toNatClampNeg 0, σ.2.2.2) → mjY mjPP (mjQQ Y) d 87 46 [some (.ref 0), some o1, some (.int x2), none] [] u K := by
        intro u tu eu
        have fu : Fr [f_workSize] [r_work] σ u := by rw [eu]; exact (Fr.a (by decide)).tr (Fr.i (by decide))
        refine ih (t ++ [0]) u (by rw [List.length_append]; show j = e - (t.length + 1); omega) tu (by rw [eu]; exact wk_push hw (by omega) 0 _ ct) (fun v tv fv kv => hK v tv (fu.tr fv) ?_)
        rw [List.append_assoc] at kv
        exact kv
      refine go _ ty'' ?_
      show (upd σ.1 f_workSize (σ.1 f_workSize + 1), _) = _
      rw [hw.1, nI_1]; rfl
set_option maxRecDepth 100000 in
theorem c_sr_cpy (K : mjK) (o1 : Value) (x2 : Int32) (a n m : Nat) (han : a + n ≤ 131200) (hmn : m + n ≤ 70000) (N : Int64) (eN : N.toInt32 = nI m) (R W0 : Nat → Int32) : ∀ (j i : Nat) (σ : mjS) (x3 : Int32), x3 = nI i → i + j = n → mjTY σ → σ.2.1 f_n1 = N → σ.2.2.1 r_aLen (Int32.ofInt 3).toNatClampNeg = nI n → σ.2.2.1 r_aAt (Int32.ofInt 3).toNatClampNeg = nI a → σ.2.2.1 r_req = R → σ.2.2.1 r_work = va_cpy R W0 a m i →
    (∀ u x3, mjTY u → Fr [] [r_work] σ u → u.2.2.1 r_work = va_cpy R W0 a m n → mjY mjPP (mjQQ Y) d 87 90 [some (.ref 0), some o1, some (.int x2), some (.int x3)] [] u K) → mjY mjPP (mjQQ Y) d 87 65 [some (.ref 0), some o1, some (.int x2), some (.int x3)] [] σ K := by
  have v2 : vp_in (Int32.ofInt 3) 1100 := vp_in_nI (n := 3) (by decide) (by decide)
  intro j
  induction j with
  | zero =>
    intro i σ x3 e1 hi ty eN1 eL eA eR eW hK
    have ei : i = n := by omega
    subst ei
    refine mjZ_y rfl rfl 6 _ _ _ _ ty ?_
    refine (And.intro rfl (And.intro rfl (And.intro v2 (And.intro (fun q => ?_) (fun q => ?_)))))
    · exact hK σ _ ty Fr.rf eW
    · exact absurd (show σ.2.2.1 r_aLen (Int32.ofInt 3).toNatClampNeg ≤ x3 by rw [eL, e1]; exact nI_le (Nat.le_refl _) (by omega)) q
  | succ j ih =>
    intro i σ x3 e1 hi ty eN1 eL eA eR eW hK
    have e3 : σ.2.2.1 r_aAt (Int32.ofInt 3).toNatClampNeg + x3 = nI (a + i) := by rw [eA, e1, nI_add]
    have e4 : (σ.2.1 f_n1).toInt32 + x3 = nI (m + i) := by rw [eN1, eN, e1, nI_add]
    have w3 : vp_in (σ.2.2.1 r_aAt (Int32.ofInt 3).toNatClampNeg + x3) 131200 := by rw [e3]; exact vp_in_nI (by omega) (by decide)
    refine mjZ_y rfl rfl 6 _ _ _ _ ty ?_
    refine (And.intro rfl (And.intro rfl (And.intro v2 (And.intro (fun q => ?_) (fun q => ?_)))))
    · exact absurd (show σ.2.2.1 r_aLen (Int32.ofInt 3).toNatClampNeg ≤ x3 from q) (by rw [eL, e1]; exact nI_ge (by omega) (by omega))
    · refine mjZ_y rfl rfl 19 _ _ _ _ ty ?_
      refine (And.intro rfl (And.intro rfl (And.intro rfl (And.intro rfl (And.intro rfl (And.intro v2 (And.intro (Or.inl rfl) (And.intro w3 (And.intro (Or.inl ⟨rfl, ty.2.1 27 _ rfl⟩) (And.intro (show vp_in ((σ.2.1 f_n1).toInt32 + x3) 70000 by rw [e4]; exact vp_in_nI (by omega) (by decide)) (fun ty' => ?_)))))))))))
      refine ih (i + 1) _ _ (by rw [e1]; exact nI_1 i) (by omega) ty' eN1 (eL) (eA) (eR) ?_ (fun u x tu fu pu => hK u x tu ((Fr.a (by decide)).tr fu) pu)
      show mjIu σ.2.2.1 r_work ((σ.2.1 f_n1).toInt32 + x3).toNatClampNeg (σ.2.2.1 r_req (σ.2.2.1 r_aAt (Int32.ofInt 3).toNatClampNeg + x3).toNatClampNeg) r_work = _
      rw [mjIu_self, e3, nI_clamp (by omega), eW, e4, nI_clamp (by omega), eR]
      exact cpy_s
/-- a text with zeros behind it up to a length -/
def padT (t : List Int32) (e : Nat) : List Int32 := t ++ List.replicate (e - t.length) 0
theorem padT_len (t : List Int32) (e : Nat) : (padT t e).length = max t.length e := by
  unfold padT; rw [List.length_append, List.length_replicate]; omega
def ovwT (t : List Int32) (m : Nat) (v : List Int32) : List Int32 := (padT t (m + v.length)).take m ++ v ++ (padT t (m + v.length)).drop (m + v.length)
theorem wd_take {f : Nat → Int32} {a n m : Nat} {t : List Int32} (h : wd f a n = t) (hm : m ≤ n) : t.take m = wd f a m := by
  have e : n = m + (n - m) := by omega
  rw [← h, e, wd_app, List.take_append_of_le_length (by rw [wd_len]; exact Nat.le_refl _), List.take_of_length_le (by rw [wd_len]; exact Nat.le_refl _)]
theorem wd_drop {f : Nat → Int32} {a n m : Nat} {t : List Int32} (h : wd f a n = t) (hm : m ≤ n) : t.drop m = wd f (a + m) (n - m) := by
  have e : wd f a n = wd f a m ++ wd f (a + m) (n - m) := by rw [← wd_app]; congr 1; omega
  rw [← h, e]
  have e2 := List.drop_left (l₁ := wd f a m) (l₂ := wd f (a + m) (n - m))
  rw [wd_len] at e2; exact e2
theorem wd_ovw {R W0 : Nat → Int32} {a m : Nat} {t' v : List Int32} (h1 : wd W0 0 t'.length = t') (h2 : wd R a v.length = v) (hm : m + v.length ≤ t'.length) : wd (va_cpy R W0 a m v.length) 0 t'.length = t'.take m ++ v ++ t'.drop (m + v.length) := by
  have e : t'.length = m + (v.length + (t'.length - (m + v.length))) := by omega
  rw [wd_take h1 (by omega), wd_drop h1 hm, Nat.zero_add]
  conv => lhs; rw [e]
  rw [wd_app, wd_app, Nat.zero_add, cpy_wd, h2, List.append_assoc]
  congr 1
  · exact wd_congr fun k hk => cpy_lo (by omega)
  · congr 1
    exact wd_congr fun k hk => pk_cpy_out (Or.inr (by omega))
def srF (A : List AK) (w v : List Int32) (n : Nat) : Option (List AK) := if v = [] then none else if n + v.length ≤ 16384 then some (putA A w (ovwT (txA A w) n v)) else none
theorem i64_le {n : Nat} {c : Nat} (hn : n < 2 ^ 63) (hc : c < 2 ^ 63) : lN n ≤ lN c ↔ n ≤ c := pk_lLE hn hc
set_option maxRecDepth 100000 in
theorem r_setRange {σ : mjS} {ws : List (List Int32)} {ks : List KR} {l : List Int32} (h : Wd σ ws ks l) (ty : mjTY σ) {w v : List Int32} (h1 : ws[1]? = some w) (h3 : ws[3]? = some v) (n : Nat) (hn : n < 2 ^ 63) (en : σ.2.1 f_n1 = lN n) (hx : (txA (strip ks) w).length ≤ 16384) (hvl : v.length ≤ 16384) (ht : tT (strip ks) + w.length ≤ 200000) (hnn : tT (strip ks) + w.length + 16384 ≤ 300000) (hl : ks.length < 4700) (hs : l.length + 132 + sz ws ≤ 420000) :
    mjY mjPP (mjQQ Y) (d + 6) 87 0 (mjL0 4 [.ref 0]) [] σ (cmdK σ ws ks l 14 (srF (strip ks) w v n)) := by
  have hlen : 1 ≤ ws.length := by have := (List.getElem?_eq_some_iff.mp h1).1; omega
  refine mjZ_y rfl rfl 3 _ _ _ _ ty ?_
  refine (And.intro (Nat.le_of_ble_eq_true rfl) (And.intro rfl (And.intro (Nat.le_of_ble_eq_true rfl) (And.intro (Nat.le_of_ble_eq_true rfl) (mjY_mono ty (fun q_ u1 ty1 h_ => ?_) (w_key h ty h1 (x := Int32.ofInt 1) rfl))))))
  obtain ⟨rfl, rfl⟩ := h_
  intro _
  refine mjZ_y rfl rfl 4 _ _ _ _ ty1 ?_
  refine (And.intro (Nat.le_of_ble_eq_true rfl) (And.intro (Nat.le_of_ble_eq_true rfl) (And.intro rfl (And.intro (Nat.le_of_ble_eq_true rfl) (And.intro (Nat.le_of_ble_eq_true rfl) (mjY_mono ty1 (fun q_ u2 ty2 h_ => ?_) (w_takeText h ty1 (w := w) rfl (by omega))))))))
  obtain ⟨rfl, h4, f4, k4⟩ := h_
  intro _
  obtain ⟨v2, a, ea, el, ha, ew⟩ := h4.2.1.clamp h3 (x := Int32.ofInt 3) rfl
  have en2 : u2.2.1 f_n1 = lN n := by rw [f4.2.1 _ (by decide)]; exact en
  have f4c : Fr cF cH u1 u2 := f4.up (by decide) (by decide)
  refine mjZ_y rfl rfl 5 _ _ _ _ ty2 ?_
  refine (And.intro rfl (And.intro rfl (And.intro v2 (And.intro (fun q => ?_) (fun q => ?_)))))
  · have qv : ¬ v = [] := fun c => q (by show u2.2.2.1 r_aLen (Int32.ofInt 3).toNatClampNeg = 0; rw [el, c]; rfl)
    have eo : srF (strip ks) w v n = if n + v.length ≤ 16384 then some (putA (strip ks) w (ovwT (txA (strip ks) w) n v)) else none := if_neg qv
    rw [eo]
    have es : u2.2.1 f_n1 + (u2.2.2.1 r_aLen (Int32.ofInt 3).toNatClampNeg).toInt64 = lN (n + v.length) := by rw [en2, el, nI_l (by omega), lN_add]
    have bad : ¬ n + v.length ≤ 16384 → mjY mjPP (mjQQ Y) (d + 6) 87 34 [some (.ref 0), some (.int (kyS ks w)), none, none] [] u2 (cmdK u1 ws ks l 14 (if n + v.length ≤ 16384 then some (putA (strip ks) w (ovwT (txA (strip ks) w) n v)) else none)) := by
      intro c
      rw [if_neg c]
      refine mjZ_y rfl rfl 2 _ _ _ _ ty2 ?_
      refine (And.intro (Nat.le_of_ble_eq_true rfl) (And.intro rfl (And.intro (Nat.le_of_ble_eq_true rfl) (And.intro (Nat.le_of_ble_eq_true rfl) (mjY_mono ty2 (fun q_ u3 ty3 h_ => ?_) (w_tooGreat h4 ty2))))))
      obtain ⟨rfl, h5, f5⟩ := h_
      intro _
      refine mjZ_y rfl rfl 1 _ _ _ _ ty3 ?_
      refine And.intro rfl (And.intro rfl ?_)
      exact ⟨rfl, f4c.tr f5.c, ks, h5, rfl⟩
    have key1 : n ≤ 16384 → ((0 : Int32) < lg_cmp (u2.2.1 f_n1 + (u2.2.2.1 r_aLen (Int32.ofInt 3).toNatClampNeg).toInt64) (Int64.ofInt 16384) ↔ ¬ n + v.length ≤ 16384) := by
      intro c
      rw [lg_cmp_gt, es, show Int64.ofInt 16384 = lN 16384 from rfl, pk_lLT (by decide) (by omega)]; omega
    have key2 : lg_cmp (u2.2.1 f_n1) (Int64.ofInt 16384) ≤ (0 : Int32) ↔ n ≤ 16384 := by
      rw [lg_cmp_le, en2, show Int64.ofInt 16384 = lN 16384 from rfl, pk_lLE hn (by decide)]
    refine mjZ_y rfl rfl 11 _ _ _ _ ty2 ?_
    refine (And.intro rfl (And.intro rfl (And.intro rfl (And.intro v2 (And.intro (fun c => ?_) (fun c => ?_))))))
    · by_cases c2 : n ≤ 16384
      · exact bad ((key1 c2).mp c)
      · exact bad (by omega)
    · refine mjZ_y rfl rfl 5 _ _ _ _ ty2 ?_
      refine (And.intro rfl (And.intro (fun c2 => ?_) (fun c2 => ?_)))
      · have c2 : n ≤ 16384 := key2.mp c2
        have c3 : n + v.length ≤ 16384 := Decidable.of_not_not (fun z => c ((key1 c2).mpr z))
        rw [if_pos c3]
        have e2 : (u2.2.1 f_n1).toInt32 + u2.2.2.1 r_aLen (Int32.ofInt 3).toNatClampNeg = nI (n + v.length) := by rw [en2, lN_i, el, nI_add]
        refine mjZ_y rfl rfl 9 _ _ _ _ ty2 ?_
        refine (And.intro rfl (And.intro rfl (And.intro rfl (And.intro v2 (And.intro (Nat.le_of_ble_eq_true rfl) ?_)))))
        refine c_sr_pad _ _ (n + v.length) (by omega) _ e2 _ _ u2 rfl ty2 k4 (fun u3 ty3 f5 k5 => ?_)
        have h5 := h4.fr f5 (by decide) (by decide)
        have elp := padT_len (txA (strip ks) w) (n + v.length)
        have k5 : WK u3 (padT (txA (strip ks) w) (n + v.length)) := k5
        refine mjZ_y rfl rfl 2 _ _ _ _ ty3 ?_
        refine (And.intro (Nat.le_of_ble_eq_true rfl) ?_)
        refine c_sr_cpy _ _ _ a v.length n ha (by omega) (lN n) (lN_i n) (u3.2.2.1 r_req) (u3.2.2.1 r_work) v.length 0 u3 _ rfl (by omega) ty3 (by rw [f5.2.1 _ (by decide)]; exact en2) (by rw [(f5.2.2 _ (by decide)).1]; exact el) (by rw [(f5.2.2 _ (by decide)).1]; exact ea) rfl (by rw [cpy_0]) (fun u4 x3 ty4 f6 e6 => ?_)
        have h6 := h5.fr f6 (by decide) (by decide)
        have el2 : (ovwT (txA (strip ks) w) n v).length = (padT (txA (strip ks) w) (n + v.length)).length := by
          unfold ovwT; rw [List.length_append, List.length_append, List.length_take, List.length_drop]; omega
        have k6 : WK u4 (ovwT (txA (strip ks) w) n v) := by
          refine ⟨by rw [f6.1 _ (by decide), el2]; exact k5.1, by rw [el2]; exact k5.2.1, ?_⟩
          rw [el2, e6]
          exact wd_ovw k5.2.2 (by rw [(f5.2.2 _ (by decide)).1]; exact ew) (by omega)
        refine mjZ_y rfl rfl 3 _ _ _ _ ty4 ?_
        refine (And.intro (Nat.le_of_ble_eq_true rfl) (And.intro rfl (And.intro (Nat.le_of_ble_eq_true rfl) (And.intro (Nat.le_of_ble_eq_true rfl) (mjY_mono ty4 (fun q_ u5 ty5 h_ => ?_) (w_putText h6 ty4 h1 k6 (x1 := Int32.ofInt 1) rfl ht (by omega) hl))))))
        obtain ⟨rfl, f7, ks', h7, e7⟩ := h_
        intro _
        refine mjZ_y rfl rfl 3 _ _ _ _ ty5 ?_
        refine (And.intro (Nat.le_of_ble_eq_true rfl) (And.intro rfl (And.intro (Nat.le_of_ble_eq_true rfl) (And.intro (Nat.le_of_ble_eq_true rfl) (mjY_mono ty5 (fun q_ u6 ty6 h_ => ?_) (w_noteAll h7 ty5 hlen 14 rfl (by decide) hs))))))
        obtain ⟨rfl, h8, f8⟩ := h_
        intro _
        refine mjZ_y rfl rfl 5 _ _ _ _ ty6 ?_
        refine (And.intro rfl (And.intro (Nat.le_of_ble_eq_true rfl) (And.intro rfl (And.intro (Nat.le_of_ble_eq_true rfl) (And.intro (Nat.le_of_ble_eq_true rfl) (mjY_mono ty6 (fun q_ u7 ty7 h_ => ?_) (w_number h8 ty6 _)))))))
        obtain ⟨rfl, h9, f9⟩ := h_
        intro _
        refine mjZ_y rfl rfl 1 _ _ _ _ ty7 ?_
        refine And.intro rfl (And.intro rfl ?_)
        have fa : Fr cF cH u1 u5 := ((f4c.tr (f5.up (by decide) (by decide))).tr (f6.up (by decide) (by decide))).tr f7.k1
        refine ⟨rfl, (fa.tr f8.n).tr f9.c, ks', ?_, e7⟩
        rw [ntA_fr fa] at h9
        exact h9
      · exact bad (fun z => c2 (key2.mpr (by omega)))
  · have qv : v = [] := by
      have q : u2.2.2.1 r_aLen (Int32.ofInt 3).toNatClampNeg = nI 0 := Decidable.of_not_not q
      rw [el] at q
      exact List.length_eq_zero_iff.mp ((nI_eq (by omega) (by decide)).mp q)
    have eo : srF (strip ks) w v n = none := if_pos qv
    rw [eo]
    refine mjZ_y rfl rfl 5 _ _ _ _ ty2 ?_
    refine (And.intro rfl (And.intro (Nat.le_of_ble_eq_true rfl) (And.intro rfl (And.intro (Nat.le_of_ble_eq_true rfl) (And.intro (Nat.le_of_ble_eq_true rfl) (mjY_mono ty2 (fun q_ u3 ty3 h_ => ?_) (w_number h4 ty2 _)))))))
    obtain ⟨rfl, h5, f5⟩ := h_
    intro _
    refine mjZ_y rfl rfl 1 _ _ _ _ ty3 ?_
    refine And.intro rfl (And.intro rfl ?_)
    exact ⟨rfl, f4c.tr f5.c, ks, h5, rfl⟩
set_option maxRecDepth 100000 in
theorem c_sb_pad (K : mjK) (e : Nat) (he : e < 70000) (x1 : Int32) (e1 : x1 = nI e) : ∀ (j : Nat) (t : List Int32) (σ : mjS), j = e + 1 - t.length → mjTY σ → WK σ t →
    (∀ u, mjTY u → Fr [f_workSize] [r_work] σ u → WK u (t ++ List.replicate j 0) → mjY mjPP (mjQQ Y) d 91 28 [some (.ref 0), some (.int x1), none, none] [] u K) → mjY mjPP (mjQQ Y) d 91 11 [some (.ref 0), some (.int x1), none, none] [] σ K := by
  intro j
  induction j with
  | zero =>
    intro t σ hj ty hw hK
    have := hw.2.1
    refine mjZ_y rfl rfl 4 _ _ _ _ ty ?_
    refine (And.intro rfl (And.intro (fun q => ?_) (fun q => ?_)))
    · exact hK σ ty Fr.rf (by rw [List.replicate_zero, List.append_nil]; exact hw)
    · exact absurd (show x1 < σ.1 f_workSize by rw [hw.1, e1]; exact Int32.not_le.mp (nI_ge (by omega) (by omega))) q
  | succ j ih =>
    intro t σ hj ty hw hK
    have ct : (σ.1 f_workSize).toNatClampNeg = t.length := by rw [hw.1]; exact nI_clamp (by omega)
    refine mjZ_y rfl rfl 4 _ _ _ _ ty ?_
    refine (And.intro rfl (And.intro (fun q => ?_) (fun q => ?_)))
    · exact absurd (show x1 < σ.1 f_workSize from q) (by rw [hw.1, e1]; exact Int32.not_lt.mpr (nI_le (by omega) (by omega)))
    · refine mjZ_y rfl rfl 13 _ _ _ _ ty ?_
      refine (And.intro rfl (And.intro rfl (And.intro (Or.inl ⟨rfl, rfl⟩) (And.intro (show vp_in (σ.1 f_workSize) 70000 by rw [hw.1]; exact vp_in_nI (by omega) (by decide)) (fun ty' => (And.intro rfl (And.intro rfl (And.intro (Or.inl rfl) (fun ty'' => ?_)))))))))
      have go : ∀ u : mjS, mjTY u → u = (upd σ.1 f_workSize (nI (t.length + 1)), σ.2.1, mjIu σ.2.2.1 r_work (σ.1 f_workSize).toNatClampNeg 0, σ.2.2.2) → mjY mjPP (mjQQ Y) d 91 11 [some (.ref 0), some (.int x1), none, none] [] u K := by
        intro u tu eu
        have fu : Fr [f_workSize] [r_work] σ u := by rw [eu]; exact (Fr.a (by decide)).tr (Fr.i (by decide))
        refine ih (t ++ [0]) u (by rw [List.length_append]; show j = e + 1 - (t.length + 1); omega) tu (by rw [eu]; exact wk_push hw (by omega) 0 _ ct) (fun v tv fv kv => hK v tv (fu.tr fv) ?_)
        rw [List.append_assoc] at kv
        exact kv
      refine go _ ty'' ?_
      show (upd σ.1 f_workSize (σ.1 f_workSize + 1), _) = _
      rw [hw.1, nI_1]; rfl
def sbB (n : Int64) : Int32 := (Int8.ofInt 7).toInt32 - (n.toInt32 - n.toInt32 / (Int8.ofInt 8).toInt32 * (Int8.ofInt 8).toInt32)
def sbX (n n2 : Int64) (x : Int32) : Int32 := ((x &&& ((Int32.ofInt 1 <<< (sbB n &&& 31)) ^^^ Int32.ofInt (-1))) ||| (n2.toInt32 <<< (sbB n &&& 31))).toInt8.toInt32
def sbF (A : List AK) (w : List Int32) (n : Nat) (n2 : Int64) : Option (List AK) := some (putA A w ((padT (txA A w) (n / 8 + 1)).set (n / 8) (sbX (lN n) n2 ((padT (txA A w) (n / 8 + 1)).getD (n / 8) 0))))
theorem wd_set {f : Nat → Int32} {n i : Nat} {t : List Int32} {b : Int32} (h : wd f 0 n = t) (hi : i < n) : wd (upd f i b) 0 n = t.set i b := by
  refine List.ext_getElem? fun k => ?_
  rw [List.getElem?_set, ← h]
  by_cases c : k < n
  · rw [wd_get c, Nat.zero_add, wd_get c, Nat.zero_add, wd_len]
    by_cases c2 : i = k
    · rw [if_pos c2, if_pos hi, ← c2, pk_us]
    · rw [if_neg c2, pk_un (fun q => c2 q.symm)]
  · have e1 : (wd (upd f i b) 0 n)[k]? = none := List.getElem?_eq_none (by rw [wd_len]; omega)
    have e2 : (wd f 0 n)[k]? = none := List.getElem?_eq_none (by rw [wd_len]; omega)
    rw [e1, e2, wd_len, if_neg (by omega)]
set_option maxRecDepth 100000 in
theorem r_setBit {σ : mjS} {ws : List (List Int32)} {ks : List KR} {l : List Int32} (h : Wd σ ws ks l) (ty : mjTY σ) {w : List Int32} (h1 : ws[1]? = some w) (n : Nat) (hn : n ≤ 131071) (en : σ.2.1 f_n1 = lN n) (n2 : Int64) (en2 : σ.2.1 f_n2 = n2) (hx : (txA (strip ks) w).length ≤ 16384) (ht : tT (strip ks) + w.length ≤ 200000) (hnn : tT (strip ks) + w.length + 16384 ≤ 300000) (hl : ks.length < 4700) (hs : l.length + 132 + sz ws ≤ 420000) :
    mjY mjPP (mjQQ Y) (d + 6) 91 0 (mjL0 4 [.ref 0]) [] σ (cmdK σ ws ks l 19 (sbF (strip ks) w n n2)) := by
  have hlen : 1 ≤ ws.length := by have := (List.getElem?_eq_some_iff.mp h1).1; omega
  refine mjZ_y rfl rfl 4 _ _ _ _ ty ?_
  refine (And.intro (Nat.le_of_ble_eq_true rfl) (And.intro rfl (And.intro (Nat.le_of_ble_eq_true rfl) (And.intro (Nat.le_of_ble_eq_true rfl) (mjY_mono ty (fun q_ u1 ty1 h_ => ?_) (w_key h ty h1 (x := Int32.ofInt 1) rfl))))))
  obtain ⟨rfl, rfl⟩ := h_
  intro _
  refine mjZ_y rfl rfl 1 _ _ _ _ ty1 ?_
  refine (And.intro (Nat.le_of_ble_eq_true rfl) (And.intro rfl (And.intro (Nat.le_of_ble_eq_true rfl) (And.intro (Nat.le_of_ble_eq_true rfl) (mjY_mono ty1 (fun q_ u2 ty2 h_ => ?_) (w_takeText h ty1 (w := w) rfl (by omega)))))))
  obtain ⟨rfl, h4, f4, k4⟩ := h_
  intro _
  have eN2 : u2.2.1 f_n1 = lN n := by rw [f4.2.1 _ (by decide)]; exact en
  have f4c : Fr cF cH u1 u2 := f4.up (by decide) (by decide)
  have e1 : (u2.2.1 f_n1).toInt32 / (Int8.ofInt 8).toInt32 = nI (n / 8) := by rw [eN2, lN_i, show (Int8.ofInt 8).toInt32 = nI 8 from by decide]; exact pk_div (by omega) (by decide) (by decide)
  refine mjZ_y rfl rfl 6 _ _ _ _ ty2 ?_
  refine (And.intro rfl (And.intro (by decide) (And.intro (Nat.le_of_ble_eq_true rfl) ?_)))
  refine c_sb_pad _ (n / 8) (by omega) _ e1 _ _ u2 rfl ty2 k4 (fun u3 ty3 f5 k5 => ?_)
  have h5 := h4.fr f5 (by decide) (by decide)
  have elp := padT_len (txA (strip ks) w) (n / 8 + 1)
  have k5 : WK u3 (padT (txA (strip ks) w) (n / 8 + 1)) := k5
  generalize (u2.2.1 f_n1).toInt32 / (Int8.ofInt 8).toInt32 = x1 at e1
  have c1 : x1.toNatClampNeg = n / 8 := by rw [e1]; exact nI_clamp (by omega)
  have v1 : vp_in x1 70000 := by rw [e1]; exact vp_in_nI (by omega) (by decide)
  have eN3 : u3.2.1 f_n1 = lN n := by rw [f5.2.1 _ (by decide)]; exact eN2
  have eM3 : u3.2.1 f_n2 = n2 := by rw [f5.2.1 _ (by decide), f4.2.1 _ (by decide)]; exact en2
  refine mjZ_y rfl rfl 38 _ _ _ _ ty3 ?_
  refine (And.intro rfl (And.intro (by decide) (And.intro (Nat.le_of_ble_eq_true rfl) (And.intro rfl (And.intro (Or.inl rfl) (And.intro v1 (And.intro (Nat.le_of_ble_eq_true rfl) (And.intro rfl (And.intro rfl (And.intro (Or.inl rfl) (And.intro v1 (And.intro rfl (And.intro (Or.inl ⟨rfl, b8 _⟩) (And.intro v1 (fun ty3' => ?_)))))))))))))))
  have go : ∀ (u : mjS) (x2 x3 : Int32), mjTY u → u = (u3.1, u3.2.1, mjIu u3.2.2.1 r_work (n / 8) (sbX (lN n) n2 (u3.2.2.1 r_work (n / 8))), u3.2.2.2) → mjY mjPP (mjQQ Y) (d + 6) 91 66 [some (.ref 0), some (.int x1), some (.int x2), some (.int x3)] [] u (cmdK u1 ws ks l 19 (sbF (strip ks) w n n2)) := by
    intro u x2 x3 tu eu
    have f6 : Fr [] [r_work] u3 u := by rw [eu]; exact Fr.a (by decide)
    have h6 := h5.fr f6 (by decide) (by decide)
    have ex : u3.2.2.1 r_work (n / 8) = (padT (txA (strip ks) w) (n / 8 + 1)).getD (n / 8) 0 := by
      rw [← k5.2.2, List.getD_eq_getElem?_getD, wd_get (by omega), Nat.zero_add]; rfl
    have k6 : WK u ((padT (txA (strip ks) w) (n / 8 + 1)).set (n / 8) (sbX (lN n) n2 ((padT (txA (strip ks) w) (n / 8 + 1)).getD (n / 8) 0))) := by
      refine ⟨by rw [f6.1 _ (by decide), List.length_set]; exact k5.1, by rw [List.length_set]; exact k5.2.1, ?_⟩
      rw [List.length_set, eu]
      show wd (mjIu u3.2.2.1 r_work (n / 8) _ r_work) 0 _ = _
      rw [mjIu_self, ex]
      exact wd_set k5.2.2 (by omega)
    refine mjZ_y rfl rfl 3 _ _ _ _ tu ?_
    refine (And.intro (Nat.le_of_ble_eq_true rfl) (And.intro rfl (And.intro (Nat.le_of_ble_eq_true rfl) (And.intro (Nat.le_of_ble_eq_true rfl) (mjY_mono tu (fun q_ u5 ty5 h_ => ?_) (w_putText h6 tu h1 k6 (x1 := Int32.ofInt 1) rfl ht (by rw [List.length_set]; omega) hl))))))
    obtain ⟨rfl, f7, ks', h7, e7⟩ := h_
    intro _
    refine mjZ_y rfl rfl 3 _ _ _ _ ty5 ?_
    refine (And.intro (Nat.le_of_ble_eq_true rfl) (And.intro rfl (And.intro (Nat.le_of_ble_eq_true rfl) (And.intro (Nat.le_of_ble_eq_true rfl) (mjY_mono ty5 (fun q_ u6 ty6 h_ => ?_) (w_noteAll h7 ty5 hlen 19 rfl (by decide) hs))))))
    obtain ⟨rfl, h8, f8⟩ := h_
    intro _
    refine mjZ_y rfl rfl 4 _ _ _ _ ty6 ?_
    refine (And.intro (Nat.le_of_ble_eq_true rfl) (And.intro rfl (And.intro (Nat.le_of_ble_eq_true rfl) (And.intro (Nat.le_of_ble_eq_true rfl) (mjY_mono ty6 (fun q_ u7 ty7 h_ => ?_) (w_number h8 ty6 _))))))
    obtain ⟨rfl, h9, f9⟩ := h_
    intro _
    refine mjZ_y rfl rfl 1 _ _ _ _ ty7 ?_
    refine And.intro rfl (And.intro rfl ?_)
    have fa : Fr cF cH u1 u5 := ((f4c.tr (f5.up (by decide) (by decide))).tr (f6.up (by decide) (by decide))).tr f7.k1
    refine ⟨rfl, (fa.tr f8.n).tr f9.c, ks', ?_, e7⟩
    rw [ntA_fr fa] at h9
    exact h9
  refine go _ _ _ ty3' ?_
  rw [← eN3, ← eM3, ← c1]
  rfl
end SETR
