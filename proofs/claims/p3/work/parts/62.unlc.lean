/-! unlink, as it runs. -/
section UNLC
variable {Y : Nat → MethodName × ByteArray} {d : Nat}
set_option maxRecDepth 100000 in
theorem c_unl_1 (K : mjK) (k e : Nat) (hk : k < 4700) (he : e < 10000) (l1 : List Nat) (σ : mjS) (ha : (l1 = [] ∧ σ.2.2.1 r_ePrev e = -1) ∨ ∃ b, l1.getLast? = some b ∧ b < 10000 ∧ σ.2.2.1 r_ePrev e = nI b) (ty : mjTY σ)
    (hK : ∀ u, mjTY u → Fr [] unH σ u → u.2.2.2 = σ.2.2.2 → (∀ g, g ≠ r_eNext → g ≠ r_kHead → u.2.2.1 g = σ.2.2.1 g) → (∀ j, u.2.2.1 r_eNext j = if l1.getLast? = some j then σ.2.2.1 r_eNext e else σ.2.2.1 r_eNext j) → (∀ j, u.2.2.1 r_kHead j = if l1 = [] ∧ j = k then σ.2.2.1 r_eNext e else σ.2.2.1 r_kHead j) → mjY mjPP (mjQQ Y) d 17 25 [some (.ref 0), some (.int (nI k)), some (.int (nI e))] [] u K) :
    mjY mjPP (mjQQ Y) d 17 0 [some (.ref 0), some (.int (nI k)), some (.int (nI e))] [] σ K := by
  have kc : (nI k).toNatClampNeg = k := nI_clamp (by omega)
  have kv : vp_in (nI k) 4700 := vp_in_nI hk (by decide)
  have ec : (nI e).toNatClampNeg = e := nI_clamp (by omega)
  have ev : vp_in (nI e) 10000 := vp_in_nI he (by decide)
  refine mjZ_y rfl rfl 5 _ _ _ _ ty ?_
  refine And.intro rfl (And.intro rfl (And.intro ev ?_))
  rcases ha with ⟨rfl, ha⟩ | ⟨b, hl, hb, ha⟩
  · refine And.intro (fun _ => ?_) (fun c => absurd (show σ.2.2.1 r_ePrev (nI e).toNatClampNeg < 0 by rw [ec, ha]; decide) c)
    refine mjZ_re rfl rfl 8 ty ?_
    refine And.intro rfl (And.intro rfl (And.intro rfl (And.intro ev (And.intro rfl (And.intro kv (fun ty1 => ?_))))))
    refine hK _ ty1 (Fr.a (by decide)) rfl (fun g _ g2 => mjIu_ne g2) (fun j => ?_) (fun j => ?_)
    · rw [if_neg (fun q => by cases q)]; exact congrFun (mjIu_ne (a := σ.2.2.1) (i := (nI k).toNatClampNeg) (v := σ.2.2.1 r_eNext (nI e).toNatClampNeg) (h := r_kHead) (g := r_eNext) (by decide)) j
    · show mjIu σ.2.2.1 r_kHead (nI k).toNatClampNeg (σ.2.2.1 r_eNext (nI e).toNatClampNeg) r_kHead j = _
      rw [mjIu_s, kc, ec]
      by_cases c : j = k
      · rw [if_pos c, if_pos ⟨rfl, c⟩]
      · rw [if_neg c, if_neg (fun q => c q.2)]
  · have bc : (σ.2.2.1 r_ePrev (nI e).toNatClampNeg).toNatClampNeg = b := by rw [ec, ha]; exact nI_clamp (by omega)
    have bv : vp_in (σ.2.2.1 r_ePrev (nI e).toNatClampNeg) 10000 := by rw [ec, ha]; exact vp_in_nI hb (by decide)
    refine And.intro (fun c => absurd (show σ.2.2.1 r_ePrev (nI e).toNatClampNeg < 0 from c) (by rw [ec, ha]; exact nI_n0 (by omega))) (fun _ => ?_)
    refine mjZ_re rfl rfl 12 ty ?_
    refine And.intro rfl (And.intro rfl (And.intro rfl (And.intro ev (And.intro rfl (And.intro rfl (And.intro ev (And.intro rfl (And.intro bv (fun ty1 => ?_)))))))))
    refine hK _ ty1 (Fr.a (by decide)) rfl (fun g g1 _ => mjIu_ne g1) (fun j => ?_) (fun j => ?_)
    · show mjIu σ.2.2.1 r_eNext (σ.2.2.1 r_ePrev (nI e).toNatClampNeg).toNatClampNeg (σ.2.2.1 r_eNext (nI e).toNatClampNeg) r_eNext j = _
      rw [mjIu_s, bc, hl, ec]
      by_cases c : j = b
      · rw [if_pos c, if_pos (by rw [c])]
      · rw [if_neg c, if_neg (fun q => c (Option.some.inj q).symm)]
    · rw [if_neg (fun q => by rw [q.1] at hl; cases hl)]; exact congrFun (mjIu_ne (a := σ.2.2.1) (i := (σ.2.2.1 r_ePrev (nI e).toNatClampNeg).toNatClampNeg) (v := σ.2.2.1 r_eNext (nI e).toNatClampNeg) (h := r_eNext) (g := r_kHead) (by decide)) j
set_option maxRecDepth 100000 in
theorem c_unl_2 (K : mjK) (k e : Nat) (hk : k < 4700) (he : e < 10000) (l2 : List Nat) (σ : mjS) (ha : (l2 = [] ∧ σ.2.2.1 r_eNext e = -1) ∨ ∃ b, l2.head? = some b ∧ b < 10000 ∧ σ.2.2.1 r_eNext e = nI b) (ty : mjTY σ)
    (hK : ∀ u, mjTY u → Fr [] unH σ u → u.2.2.2 = σ.2.2.2 → (∀ g, g ≠ r_ePrev → g ≠ r_kTail → u.2.2.1 g = σ.2.2.1 g) → (∀ j, u.2.2.1 r_ePrev j = if l2.head? = some j then σ.2.2.1 r_ePrev e else σ.2.2.1 r_ePrev j) → (∀ j, u.2.2.1 r_kTail j = if l2 = [] ∧ j = k then σ.2.2.1 r_ePrev e else σ.2.2.1 r_kTail j) → mjY mjPP (mjQQ Y) d 17 50 [some (.ref 0), some (.int (nI k)), some (.int (nI e))] [] u K) :
    mjY mjPP (mjQQ Y) d 17 25 [some (.ref 0), some (.int (nI k)), some (.int (nI e))] [] σ K := by
  have kc : (nI k).toNatClampNeg = k := nI_clamp (by omega)
  have kv : vp_in (nI k) 4700 := vp_in_nI hk (by decide)
  have ec : (nI e).toNatClampNeg = e := nI_clamp (by omega)
  have ev : vp_in (nI e) 10000 := vp_in_nI he (by decide)
  refine mjZ_y rfl rfl 5 _ _ _ _ ty ?_
  refine And.intro rfl (And.intro rfl (And.intro ev ?_))
  rcases ha with ⟨rfl, ha⟩ | ⟨b, hl, hb, ha⟩
  · refine And.intro (fun _ => ?_) (fun c => absurd (show σ.2.2.1 r_eNext (nI e).toNatClampNeg < 0 by rw [ec, ha]; decide) c)
    refine mjZ_re rfl rfl 8 ty ?_
    refine And.intro rfl (And.intro rfl (And.intro rfl (And.intro ev (And.intro rfl (And.intro kv (fun ty1 => ?_))))))
    refine hK _ ty1 (Fr.a (by decide)) rfl (fun g _ g2 => mjIu_ne g2) (fun j => ?_) (fun j => ?_)
    · rw [if_neg (fun q => by cases q)]; exact congrFun (mjIu_ne (a := σ.2.2.1) (i := (nI k).toNatClampNeg) (v := σ.2.2.1 r_ePrev (nI e).toNatClampNeg) (h := r_kTail) (g := r_ePrev) (by decide)) j
    · show mjIu σ.2.2.1 r_kTail (nI k).toNatClampNeg (σ.2.2.1 r_ePrev (nI e).toNatClampNeg) r_kTail j = _
      rw [mjIu_s, kc, ec]
      by_cases c : j = k
      · rw [if_pos c, if_pos ⟨rfl, c⟩]
      · rw [if_neg c, if_neg (fun q => c q.2)]
  · have bc : (σ.2.2.1 r_eNext (nI e).toNatClampNeg).toNatClampNeg = b := by rw [ec, ha]; exact nI_clamp (by omega)
    have bv : vp_in (σ.2.2.1 r_eNext (nI e).toNatClampNeg) 10000 := by rw [ec, ha]; exact vp_in_nI hb (by decide)
    refine And.intro (fun c => absurd (show σ.2.2.1 r_eNext (nI e).toNatClampNeg < 0 from c) (by rw [ec, ha]; exact nI_n0 (by omega))) (fun _ => ?_)
    refine mjZ_re rfl rfl 12 ty ?_
    refine And.intro rfl (And.intro rfl (And.intro rfl (And.intro ev (And.intro rfl (And.intro rfl (And.intro ev (And.intro rfl (And.intro bv (fun ty1 => ?_)))))))))
    refine hK _ ty1 (Fr.a (by decide)) rfl (fun g g1 _ => mjIu_ne g1) (fun j => ?_) (fun j => ?_)
    · show mjIu σ.2.2.1 r_ePrev (σ.2.2.1 r_eNext (nI e).toNatClampNeg).toNatClampNeg (σ.2.2.1 r_ePrev (nI e).toNatClampNeg) r_ePrev j = _
      rw [mjIu_s, bc, hl, ec]
      by_cases c : j = b
      · rw [if_pos c, if_pos (by rw [c])]
      · rw [if_neg c, if_neg (fun q => c (Option.some.inj q).symm)]
    · rw [if_neg (fun q => by rw [q.1] at hl; cases hl)]; exact congrFun (mjIu_ne (a := σ.2.2.1) (i := (σ.2.2.1 r_eNext (nI e).toNatClampNeg).toNatClampNeg) (v := σ.2.2.1 r_ePrev (nI e).toNatClampNeg) (h := r_ePrev) (g := r_kTail) (by decide)) j
set_option maxRecDepth 100000 in
theorem c_unl_3 (K : mjK) (k e : Nat) (hk : k < 4700) (he : e < 10000) (σ : mjS) (ty : mjTY σ)
    (hK : ∀ u, Fr [f_eFree] unH σ u → u.2.2.2 = σ.2.2.2 → u.1 f_eFree = nI e → (∀ g, g ≠ r_kMany → g ≠ r_eNext → u.2.2.1 g = σ.2.2.1 g) → (∀ j, u.2.2.1 r_kMany j = if j = k then σ.2.2.1 r_kMany k - 1 else σ.2.2.1 r_kMany j) → (∀ j, u.2.2.1 r_eNext j = if j = e then σ.1 f_eFree else σ.2.2.1 r_eNext j) → K none u) :
    mjY mjPP (mjQQ Y) d 17 50 [some (.ref 0), some (.int (nI k)), some (.int (nI e))] [] σ K := by
  have kc : (nI k).toNatClampNeg = k := nI_clamp (by omega)
  have kv : vp_in (nI k) 4700 := vp_in_nI hk (by decide)
  have ec : (nI e).toNatClampNeg = e := nI_clamp (by omega)
  have ev : vp_in (nI e) 10000 := vp_in_nI he (by decide)
  refine mjZ_y rfl rfl 18 _ _ _ _ ty ?_
  refine And.intro rfl (And.intro rfl (And.intro kv (And.intro rfl (And.intro kv (fun ty1 => ?_)))))
  refine And.intro rfl (And.intro rfl (And.intro rfl (And.intro ev (fun ty2 => ?_))))
  refine And.intro rfl (And.intro (Or.inl rfl) (fun ty3 => ?_))
  refine And.intro rfl (And.intro rfl (hK _ (((Fr.a (by decide)).tr (Fr.a (by decide))).tr (Fr.i (by decide))) rfl (show upd σ.1 f_eFree (nI e) f_eFree = nI e from pk_us) (fun g g1 g2 => ?_) (fun j => ?_) (fun j => ?_)))
  · show mjIu (mjIu σ.2.2.1 r_kMany (nI k).toNatClampNeg (σ.2.2.1 r_kMany (nI k).toNatClampNeg - 1)) r_eNext (nI e).toNatClampNeg (σ.1 f_eFree) g = _
    rw [mjIu_ne g2, mjIu_ne g1]
  · show mjIu (mjIu σ.2.2.1 r_kMany (nI k).toNatClampNeg (σ.2.2.1 r_kMany (nI k).toNatClampNeg - 1)) r_eNext (nI e).toNatClampNeg (σ.1 f_eFree) r_kMany j = _
    rw [mjIu_ne (by decide), mjIu_s, kc]
  · show mjIu (mjIu σ.2.2.1 r_kMany (nI k).toNatClampNeg (σ.2.2.1 r_kMany (nI k).toNatClampNeg - 1)) r_eNext (nI e).toNatClampNeg (σ.1 f_eFree) r_eNext j = _
    rw [mjIu_s, ec, mjIu_ne (by decide)]
theorem c_unlink {σ : mjS} {hs : Nat} {A B : List KR} {x : KR} {fk fe : List Nat} {y : ER} {E1 E2 : List ER} (h : KS σ hs (A ++ x :: B) fk fe) (he : x.2.2.2.2.2.2 = E1 ++ y :: E2) (ty : mjTY σ) : mjY mjPP (mjQQ Y) d 17 0 (mjL0 3 [.ref 0, .int (nI x.1), .int (nI y.1)]) [] σ (fun r u => r = none ∧ Fr [f_eFree] unH σ u ∧ KS u hs (A ++ withE x (E1 ++ E2) :: B) fk (y.1 :: fe)) := by
  have h0 := h
  obtain ⟨a1, a2, a3, a4, a5, a6, a7, a8, a9, a10, a11, a12, a13, a14, a15, a16, a17⟩ := h
  have hx : x ∈ A ++ x :: B := List.mem_append_right _ List.mem_cons_self
  have hk := a5 x hx
  have ei : ids x.2.2.2.2.2.2 = ids E1 ++ y.1 :: ids E2 := by rw [he, ids_app, ids_cons]
  have n0 := List.nodup_append.mp a11
  have mem : ∀ j, j ∈ ids E1 ++ y.1 :: ids E2 → j ∈ eIds (A ++ x :: B) := fun j hj => mem_eIds hx (by rw [ei]; exact hj)
  have lt : ∀ j, j ∈ ids E1 ++ y.1 :: ids E2 → j < 10000 := fun j hj => a12 j (List.mem_append_left _ (mem j hj))
  have nds : (ids E1 ++ y.1 :: ids E2).Nodup := by
    have z := n0.1
    rw [eIds_app, eIds_cons, ei] at z
    exact (List.nodup_append.mp (List.nodup_append.mp z).2.1).1
  have n2 := List.nodup_append.mp nds
  have n3 := List.nodup_cons.mp n2.2.1
  have y10 : y.1 < 10000 := lt _ (List.mem_append_right _ List.mem_cons_self)
  have k1 := hk.1
  have k10 := hk.2.2.2.2.2.2.2.2.2.1
  rw [ei] at k10
  have s2 := seg_cons.mp (seg_app.mp k10).2
  have ne1 : (ids E1).getLast? ≠ some y.1 := fun q => n2.2.2 y.1 (List.mem_of_getLast? q) y.1 List.mem_cons_self rfl
  have ne2 : (ids E2).head? ≠ some y.1 := fun q => n3.1 (List.mem_of_head? q)
  have hp : (ids E1 = [] ∧ σ.2.2.1 r_ePrev y.1 = -1) ∨ ∃ b, (ids E1).getLast? = some b ∧ b < 10000 ∧ σ.2.2.1 r_ePrev y.1 = nI b := by
    rw [s2.1]
    rcases List.eq_nil_or_concat (ids E1) with c | ⟨l, b, c⟩
    · exact Or.inl ⟨c, by rw [c]; rfl⟩
    · rw [List.concat_eq_append] at c
      exact Or.inr ⟨b, by rw [c]; exact List.getLast?_concat, lt b (List.mem_append_left _ (by rw [c]; exact List.mem_append_right _ List.mem_cons_self)), by rw [c]; exact lst_snoc _ _ _⟩
  have hq : (ids E2 = [] ∧ σ.2.2.1 r_eNext y.1 = -1) ∨ ∃ b, (ids E2).head? = some b ∧ b < 10000 ∧ σ.2.2.1 r_eNext y.1 = nI b := by
    rw [s2.2.1]
    cases c : ids E2 with
    | nil => exact Or.inl ⟨rfl, rfl⟩
    | cons b r => exact Or.inr ⟨b, rfl, lt b (List.mem_append_right _ (List.mem_cons_of_mem _ (by rw [c]; exact List.mem_cons_self))), rfl⟩
  refine c_unl_1 _ x.1 y.1 k1 y10 (ids E1) σ hp ty (fun u1 ty1 f1 c1 o1 e1 h1 => ?_)
  have q1 : u1.2.2.1 r_eNext y.1 = σ.2.2.1 r_eNext y.1 := by rw [e1, if_neg ne1]
  refine c_unl_2 _ x.1 y.1 k1 y10 (ids E2) u1 (by rw [q1]; exact hq) ty1 (fun u2 ty2 f2 c2 o2 e2 h2 => ?_)
  refine c_unl_3 _ x.1 y.1 k1 y10 u2 ty2 (fun u f3 c3 z3 o3 m3 e3 => ?_)
  have f : Fr [f_eFree] unH σ u := ((f1.tr f2).up (fun _ q => by cases q) (fun _ q => q)).tr f3
  refine ⟨rfl, f, ks_unlink h0 he f z3 (by rw [c3, c2, c1]) (fun j => ?_) (fun j => ?_) (fun j => ?_) (fun j => ?_) (fun j => ?_)⟩
  · rw [e3, o2 r_eNext (by decide) (by decide), e1, s2.2.1, f2.1 f_eFree (by decide), f1.1 f_eFree (by decide)]
  · rw [o3 r_ePrev (by decide) (by decide), e2, o1 r_ePrev (by decide) (by decide), s2.1]
  · rw [o3 r_kHead (by decide) (by decide), o2 r_kHead (by decide) (by decide), h1, s2.2.1]
  · rw [o3 r_kTail (by decide) (by decide), h2, o1 r_ePrev (by decide) (by decide), o1 r_kTail (by decide) (by decide), s2.1]
  · rw [m3, o2 r_kMany (by decide) (by decide), o1 r_kMany (by decide) (by decide)]
end UNLC
