/-! insert as a whole. -/
section INSD
variable {Y : Nat → MethodName × ByteArray} {d : Nat}
set_option maxRecDepth 100000 in
theorem c_ins_a (K : mjK) (k e : Nat) (he : e < 10000) (a n z : Int32) (hz : z = nI e) (σ : mjS) (ty : mjTY σ)
    (hK : ∀ u, mjTY u → Fr [] inH σ u → u.2.2.2 = σ.2.2.2 → (∀ g, g ≠ r_ePrev → g ≠ r_eNext → u.2.2.1 g = σ.2.2.1 g) → (∀ j, u.2.2.1 r_ePrev j = if j = e then a else σ.2.2.1 r_ePrev j) → (∀ j, u.2.2.1 r_eNext j = if j = e then n else σ.2.2.1 r_eNext j) → mjY mjPP (mjQQ Y) d 16 31 [some (.ref 0), some (.int (nI k)), some (.int a), some (.int z), some (.int n)] [] u K) :
    mjY mjPP (mjQQ Y) d 16 21 [some (.ref 0), some (.int (nI k)), some (.int a), some (.int z), some (.int n)] [] σ K := by
  subst hz
  have ec : (nI e).toNatClampNeg = e := nI_clamp (by omega)
  have ev : vp_in (nI e) 10000 := vp_in_nI he (by decide)
  refine mjZ_y rfl rfl 10 _ _ _ _ ty ?_
  refine And.intro rfl (And.intro rfl (And.intro ev (fun ty1 => ?_)))
  refine And.intro rfl (And.intro rfl (And.intro ev (fun ty2 => ?_)))
  refine hK _ ty2 ((Fr.a (by decide)).tr (Fr.a (by decide))) rfl (fun g g1 g2 => ?_) (fun j => ?_) (fun j => ?_)
  · show mjIu (mjIu σ.2.2.1 r_ePrev (nI e).toNatClampNeg a) r_eNext (nI e).toNatClampNeg n g = _
    rw [mjIu_ne g2, mjIu_ne g1]
  · show mjIu (mjIu σ.2.2.1 r_ePrev (nI e).toNatClampNeg a) r_eNext (nI e).toNatClampNeg n r_ePrev j = _
    rw [mjIu_ne (by decide), mjIu_s, ec]
  · show mjIu (mjIu σ.2.2.1 r_ePrev (nI e).toNatClampNeg a) r_eNext (nI e).toNatClampNeg n r_eNext j = _
    rw [mjIu_s, ec, mjIu_ne (by decide)]
theorem c_ins_all (K : mjK) (k e : Nat) (hk : k < 4700) (he : e < 10000) (a n z : Int32) (hz : z = nI e) (l1 l2 : List Nat) (hn : n = hdq l2 (-1)) (hl : ∀ j ∈ l2, j < 10000) (ha : (l1 = [] ∧ a = -1) ∨ ∃ b, l1.getLast? = some b ∧ b < 10000 ∧ a = nI b) (en : e ∉ l1 ++ l2) (σ : mjS) (ty : mjTY σ)
    (hK : ∀ u, Fr [] inH σ u →
      (∀ j, u.2.2.1 r_eNext j = if j = e then n else if l1.getLast? = some j then nI e else σ.2.2.1 r_eNext j) →
      (∀ j, u.2.2.1 r_ePrev j = if j = e then a else if l2.head? = some j then nI e else σ.2.2.1 r_ePrev j) →
      (∀ j, u.2.2.1 r_kHead j = if l1 = [] ∧ j = k then nI e else σ.2.2.1 r_kHead j) → (∀ j, u.2.2.1 r_kTail j = if l2 = [] ∧ j = k then nI e else σ.2.2.1 r_kTail j) → (∀ j, u.2.2.1 r_kMany j = if j = k then σ.2.2.1 r_kMany k + 1 else σ.2.2.1 r_kMany j) →
      (∀ j, u.2.2.1 r_eLen j = if j = e then 0 else σ.2.2.1 r_eLen j) → (∀ j, u.2.2.1 r_vLen j = if j = e then 0 else σ.2.2.1 r_vLen j) → (∀ j, u.2.2.2 r_eScore j = if j = e then 0 else σ.2.2.2 r_eScore j) → K (some (.int (nI e))) u) :
    mjY mjPP (mjQQ Y) d 16 21 [some (.ref 0), some (.int (nI k)), some (.int a), some (.int z), some (.int n)] [] σ K := by
  refine c_ins_a K k e he a n z hz σ ty (fun u1 ty1 f1 s1 o1 p1 n1 => ?_)
  refine c_ins_b1 K k e hk he a n z hz l1 ha u1 ty1 (fun u2 ty2 f2 s2 o2 n2 h2 => ?_)
  refine c_ins_b2 K k e hk he a n z hz l2 hn hl u2 ty2 (fun u3 ty3 f3 s3 o3 p3 t3 => ?_)
  refine c_ins_c K k e hk he a n z hz u3 ty3 (fun u f4 o4 m4 l4 v4 c4 => ?_)
  have ne1 : l1.getLast? ≠ some e := fun q => en (List.mem_append_left _ (List.mem_of_getLast? q))
  have ne2 : l2.head? ≠ some e := fun q => en (List.mem_append_right _ (List.mem_of_head? q))
  refine hK u (((f1.tr f2).tr f3).tr f4) (fun j => ?_) (fun j => ?_) (fun j => ?_) (fun j => ?_) (fun j => ?_) (fun j => ?_) (fun j => ?_) (fun j => ?_)
  · rw [o4 r_eNext (by decide) (by decide) (by decide), o3 r_eNext (by decide) (by decide), n2, n1]
    by_cases c : j = e
    · rw [if_pos c, if_pos c, if_neg (by rw [c]; exact ne1)]
    · rw [if_neg c, if_neg c]
  · rw [o4 r_ePrev (by decide) (by decide) (by decide), p3, o2 r_ePrev (by decide) (by decide), p1]
    by_cases c : j = e
    · rw [if_pos c, if_pos c, if_neg (by rw [c]; exact ne2)]
    · rw [if_neg c, if_neg c]
  · rw [o4 r_kHead (by decide) (by decide) (by decide), o3 r_kHead (by decide) (by decide), h2, o1 r_kHead (by decide) (by decide)]
  · rw [o4 r_kTail (by decide) (by decide) (by decide), t3, o2 r_kTail (by decide) (by decide), o1 r_kTail (by decide) (by decide)]
  · rw [m4, o3 r_kMany (by decide) (by decide), o2 r_kMany (by decide) (by decide), o1 r_kMany (by decide) (by decide)]
  · rw [l4, o3 r_eLen (by decide) (by decide), o2 r_eLen (by decide) (by decide), o1 r_eLen (by decide) (by decide)]
  · rw [v4, o3 r_vLen (by decide) (by decide), o2 r_vLen (by decide) (by decide), o1 r_vLen (by decide) (by decide)]
  · rw [c4, s3, s2, s1]
set_option maxRecDepth 100000 in
theorem c_insert {σ : mjS} {hs : Nat} {A B : List KR} {x : KR} {fk fe : List Nat} {e : Nat} {E1 E2 : List ER} (h : KS σ hs (A ++ x :: B) fk (e :: fe)) (he : x.2.2.2.2.2.2 = E1 ++ E2) (ty : mjTY σ) : mjY mjPP (mjQQ Y) d 16 0 (mjL0 5 [.ref 0, .int (nI x.1), .int (lst (-1) (ids E1))]) [] σ (fun r u => r = some (.int (nI e)) ∧ Fr [f_eFree] inH σ u ∧ KS u hs (A ++ withE x (E1 ++ (e, [], [], 0) :: E2) :: B) fk fe) := by
  have h0 := h
  obtain ⟨a1, a2, a3, a4, a5, a6, a7, a8, a9, a10, a11, a12, a13, a14, a15, a16, a17⟩ := h
  have hx : x ∈ A ++ x :: B := List.mem_append_right _ List.mem_cons_self
  have hk := a5 x hx
  have ei : ids x.2.2.2.2.2.2 = ids E1 ++ ids E2 := by rw [he, ids_app]
  have n0 := List.nodup_append.mp a11
  have mem : ∀ j, j ∈ ids E1 ++ ids E2 → j ∈ eIds (A ++ x :: B) := fun j hj => mem_eIds hx (by rw [ei]; exact hj)
  have en : e ∉ ids E1 ++ ids E2 := fun z => n0.2.2 e (mem e z) e List.mem_cons_self rfl
  have lt : ∀ j, j ∈ ids E1 ++ ids E2 → j < 10000 := fun j hj => a12 j (List.mem_append_left _ (mem j hj))
  have e10 : e < 10000 := a12 e (List.mem_append_right _ List.mem_cons_self)
  obtain ⟨k1, -, -, -, -, -, k7, -, -, k10, -⟩ := hk
  rw [ei] at k7 k10
  have e0 : σ.1 f_eFree = nI e := a14
  have kc : (nI x.1).toNatClampNeg = x.1 := nI_clamp (by omega)
  have kv : vp_in (nI x.1) 4700 := vp_in_nI k1 (by decide)
  have ev : vp_in (σ.1 f_eFree) 10000 := by rw [e0]; exact vp_in_nI e10 (by decide)
  have ec : (σ.1 f_eFree).toNatClampNeg = e := by rw [e0]; exact nI_clamp (by omega)
  have fin : ∀ n, n = hdq (ids E2) (-1) → ∀ u1 : mjS, mjTY u1 → u1 = (upd σ.1 f_eFree (σ.2.2.1 r_eNext (σ.1 f_eFree).toNatClampNeg), σ.2) → ((ids E1 = [] ∧ lst (-1) (ids E1) = -1) ∨ ∃ b, (ids E1).getLast? = some b ∧ b < 10000 ∧ lst (-1) (ids E1) = nI b) →
      mjY mjPP (mjQQ Y) d 16 21 [some (.ref 0), some (.int (nI x.1)), some (.int (lst (-1) (ids E1))), some (.int (σ.1 f_eFree)), some (.int n)] [] u1 (fun r u => r = some (.int (nI e)) ∧ Fr [f_eFree] inH σ u ∧ KS u hs (A ++ withE x (E1 ++ (e, [], [], 0) :: E2) :: B) fk fe) := by
    intro n hn u1 ty1 eu ha
    subst eu
    refine c_ins_all _ x.1 e k1 e10 _ n _ e0 (ids E1) (ids E2) hn (fun j hj => lt j (List.mem_append_right _ hj)) ha en _ ty1 (fun u f hN hP hH hT hM hL hV hS => ?_)
    have f2 : Fr [f_eFree] inH σ u := (Fr.i List.mem_cons_self).tr (f.up (fun _ q => by cases q) (fun _ q => q))
    refine ⟨rfl, f2, ks_insert h0 he f2 ?_ (by rw [← hn]; exact hN) hP hH hT hM hL hV hS⟩
    rw [f.1 f_eFree (by decide)]
    show upd σ.1 f_eFree (σ.2.2.1 r_eNext (σ.1 f_eFree).toNatClampNeg) f_eFree = _
    rw [pk_us, ec]
  refine mjZ_y rfl rfl 16 _ _ _ _ ty ?_
  refine And.intro rfl (And.intro (Nat.le_of_ble_eq_true rfl) (And.intro rfl (And.intro rfl (And.intro ev (And.intro rfl (And.intro (Or.inl rfl) (fun ty1 => ?_)))))))
  refine And.intro rfl (And.intro rfl (And.intro kv (And.intro (Nat.le_of_ble_eq_true rfl) ?_)))
  rcases List.eq_nil_or_concat (ids E1) with c | ⟨l, b, c⟩
  · have cl : lst (-1) (ids E1) = -1 := by rw [c]; rfl
    refine And.intro (fun _ => ?_) (fun q => absurd (show lst (-1) (ids E1) < 0 by rw [cl]; decide) q)
    refine fin _ ?_ _ ty1 rfl (Or.inl ⟨c, cl⟩)
    show σ.2.2.1 r_kHead (nI x.1).toNatClampNeg = _
    rw [kc, k7, c, nx_hdq]; rfl
  · rw [List.concat_eq_append] at c
    have cl : lst (-1) (ids E1) = nI b := by rw [c]; exact lst_snoc _ _ _
    have b10 : b < 10000 := lt b (List.mem_append_left _ (by rw [c]; exact List.mem_append_right _ List.mem_cons_self))
    have bn : σ.2.2.1 r_eNext b = hdq (ids E2) (-1) := by
      have s1 := (seg_app.mp k10).1
      rw [c] at s1
      exact (seg_cons.mp (seg_app.mp s1).2).2.1
    refine And.intro (fun q => absurd (show lst (-1) (ids E1) < 0 from q) (by rw [cl]; exact nI_n0 (by omega))) (fun _ => ?_)
    refine mjZ_re rfl rfl 5 ty1 ?_
    refine And.intro rfl (And.intro rfl (And.intro (show vp_in (lst (-1) (ids E1)) 10000 by rw [cl]; exact vp_in_nI b10 (by decide)) (And.intro (Nat.le_of_ble_eq_true rfl) ?_)))
    refine fin _ ?_ _ ty1 rfl (Or.inr ⟨b, by rw [c]; exact List.getLast?_concat, b10, cl⟩)
    show σ.2.2.1 r_eNext (lst (-1) (ids E1)).toNatClampNeg = _
    rw [cl, nI_clamp (by omega)]; exact bn
end INSD
