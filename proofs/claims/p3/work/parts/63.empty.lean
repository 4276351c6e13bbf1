/-! blank and empty: a key loses all that it has. -/
section EMPTY
variable {Y : Nat → MethodName × ByteArray} {d : Nat}
abbrev blH : List Nat := [r_kSort, r_kHead, r_kTail, r_kMany, r_tAt, r_tLen]
/-- what blank leaves behind -/
def BL (σ u : mjS) (k : Nat) (s : Int32) : Prop := Fr [] blH σ u ∧ u.2.2.2 = σ.2.2.2 ∧ (∀ g j, j ≠ k → u.2.2.1 g j = σ.2.2.1 g j) ∧ u.2.2.1 r_kSort k = s ∧ u.2.2.1 r_kHead k = -1 ∧ u.2.2.1 r_kTail k = -1 ∧ u.2.2.1 r_kMany k = 0 ∧ u.2.2.1 r_tAt k = 0 ∧ u.2.2.1 r_tLen k = 0
set_option maxRecDepth 100000 in
theorem c_blank (k : Nat) (hk : k < 4700) (s : Int32) (σ : mjS) (ty : mjTY σ) : mjY mjPP (mjQQ Y) d 13 0 (mjL0 3 [.ref 0, .int (nI k), .int s]) [] σ (fun r u => r = none ∧ BL σ u k s) := by
  have kc : (nI k).toNatClampNeg = k := nI_clamp (by omega)
  have kv : vp_in (nI k) 4700 := vp_in_nI hk (by decide)
  refine mjZ_y rfl rfl 31 _ _ _ _ ty ?_
  refine And.intro rfl (And.intro rfl (And.intro kv (fun ty1 => ?_)))
  refine And.intro rfl (And.intro rfl (And.intro kv (fun ty2 => ?_)))
  refine And.intro rfl (And.intro rfl (And.intro kv (fun ty3 => ?_)))
  refine And.intro rfl (And.intro rfl (And.intro kv (fun ty4 => ?_)))
  refine And.intro rfl (And.intro rfl (And.intro kv (fun ty5 => ?_)))
  refine And.intro rfl (And.intro rfl (And.intro kv (fun ty6 => ?_)))
  refine And.intro rfl (And.intro rfl (And.intro rfl ?_))
  have go : ∀ u : mjS, u = (σ.1, σ.2.1, mjIu (mjIu (mjIu (mjIu (mjIu (mjIu σ.2.2.1 r_kSort (nI k).toNatClampNeg s) r_kHead (nI k).toNatClampNeg (-1)) r_kTail (nI k).toNatClampNeg (-1)) r_kMany (nI k).toNatClampNeg 0) r_tAt (nI k).toNatClampNeg 0) r_tLen (nI k).toNatClampNeg 0, σ.2.2.2) → BL σ u k s := by
    intro u eu
    have e2 : u.2.2.1 = mjIu (mjIu (mjIu (mjIu (mjIu (mjIu σ.2.2.1 r_kSort k s) r_kHead k (-1)) r_kTail k (-1)) r_kMany k 0) r_tAt k 0) r_tLen k 0 := by rw [eu, kc]
    refine ⟨?_, by rw [eu], fun g j hj => ?_, ?_, ?_, ?_, ?_, ?_, ?_⟩
    · subst eu
      exact (((((Fr.a (by decide)).tr (Fr.a (by decide))).tr (Fr.a (by decide))).tr (Fr.a (by decide))).tr (Fr.a (by decide))).tr (Fr.a (by decide))
    · rw [e2, mjIu_at, if_neg (fun q => hj q.2), mjIu_at, if_neg (fun q => hj q.2), mjIu_at, if_neg (fun q => hj q.2), mjIu_at, if_neg (fun q => hj q.2), mjIu_at, if_neg (fun q => hj q.2), mjIu_at, if_neg (fun q => hj q.2)]
    · rw [e2, mjIu_ne (by decide), mjIu_ne (by decide), mjIu_ne (by decide), mjIu_ne (by decide), mjIu_ne (by decide), mjIu_s, if_pos rfl]
    · rw [e2, mjIu_ne (by decide), mjIu_ne (by decide), mjIu_ne (by decide), mjIu_ne (by decide), mjIu_s, if_pos rfl]
    · rw [e2, mjIu_ne (by decide), mjIu_ne (by decide), mjIu_ne (by decide), mjIu_s, if_pos rfl]
    · rw [e2, mjIu_ne (by decide), mjIu_ne (by decide), mjIu_s, if_pos rfl]
    · rw [e2, mjIu_ne (by decide), mjIu_s, if_pos rfl]
    · rw [e2, mjIu_s, if_pos rfl]
  exact go _ rfl
theorem SEG.f {σ : mjS} : ∀ {l : List Nat} {p : Int32}, SEG σ p l (-1) → FSEG σ l := by
  intro l
  induction l with
  | nil => intro p _; trivial
  | cons e r ih =>
    intro p h
    obtain ⟨-, h2, h3⟩ := seg_cons.mp h
    exact ⟨by rw [nx_hdq]; exact h2, ih h3⟩
set_option maxRecDepth 100000 in
theorem c_empty_loop (K : mjK) (k : Nat) : ∀ (l fr : List Nat) (σ : mjS) (x2 : Int32) (l3 : Option Value), x2 = nx l → mjTY σ → σ.1 f_eFree = nx fr → FSEG σ l → FSEG σ fr → (l ++ fr).Nodup → (∀ j ∈ l, j < 10000) →
    (∀ u l2 l3, mjTY u → Fr [f_eFree] [r_eNext] σ u → u.2.2.2 = σ.2.2.2 → u.1 f_eFree = nx (l.reverse ++ fr) → FSEG u (l.reverse ++ fr) → (∀ j, j ∉ l → u.2.2.1 r_eNext j = σ.2.2.1 r_eNext j) → mjY mjPP (mjQQ Y) d 14 24 [some (.ref 0), some (.int (nI k)), l2, l3] [] u K) →
    mjY mjPP (mjQQ Y) d 14 5 [some (.ref 0), some (.int (nI k)), some (.int x2), l3] [] σ K := by
  intro l
  induction l with
  | nil =>
    intro fr σ x2 l3 e2 ty ef s1 s2 nd hl hK
    subst e2
    refine mjZ_y rfl rfl 2 _ _ _ _ ty ?_
    exact And.intro (fun _ => hK σ _ _ ty Fr.rf rfl ef s2 (fun _ _ => rfl)) (fun c => absurd (show (-1 : Int32) < 0 by decide) c)
  | cons e r ih =>
    intro fr σ x2 l3 e2 ty ef s1 s2 nd hl hK
    have e2 : x2 = nI e := e2
    subst e2
    have he := hl e List.mem_cons_self
    have ec : (nI e).toNatClampNeg = e := nI_clamp (by omega)
    have ev : vp_in (nI e) 10000 := vp_in_nI he (by decide)
    have nd1 := List.nodup_cons.mp nd
    refine mjZ_y rfl rfl 19 _ _ _ _ ty ?_
    refine And.intro (fun c => absurd (show nI e < 0 from c) (nI_n0 (by omega))) (fun _ => ?_)
    refine And.intro rfl (And.intro rfl (And.intro ev (And.intro (Nat.le_of_ble_eq_true rfl) ?_)))
    refine And.intro rfl (And.intro rfl (And.intro rfl (And.intro ev (fun ty1 => ?_))))
    refine And.intro rfl (And.intro (Or.inl rfl) (fun ty2 => And.intro (Nat.le_of_ble_eq_true rfl) ?_))
    have go : ∀ u1 : mjS, mjTY u1 → u1 = (upd σ.1 f_eFree (nI e), σ.2.1, mjIu σ.2.2.1 r_eNext (nI e).toNatClampNeg (σ.1 f_eFree), σ.2.2.2) → ∀ (x3 : Int32), x3 = nx r → mjY mjPP (mjQQ Y) d 14 5 [some (.ref 0), some (.int (nI k)), some (.int x3), some (.int x3)] [] u1 K := by
      intro u1 t1 eu x3 e3
      have eN : ∀ j, u1.2.2.1 r_eNext j = if j = e then σ.1 f_eFree else σ.2.2.1 r_eNext j := by
        intro j
        rw [eu]
        show mjIu σ.2.2.1 r_eNext (nI e).toNatClampNeg (σ.1 f_eFree) r_eNext j = _
        rw [mjIu_s, ec]
      have f1 : Fr [f_eFree] [r_eNext] σ u1 := by
        rw [eu]
        exact (Fr.a (h := r_eNext) (by decide)).tr (Fr.i (k := f_eFree) (by decide))
      have sN : ∀ j, j ≠ e → u1.2.2.1 r_eNext j = σ.2.2.1 r_eNext j := fun j hj => by rw [eN, if_neg hj]
      have eF : u1.1 f_eFree = nI e := by rw [eu]; show upd σ.1 f_eFree (nI e) f_eFree = nI e; exact pk_us
      have er : ∀ j, j ∈ r ++ fr → j ≠ e := fun j hj q => nd1.1 (q ▸ hj)
      have rv : (e :: r).reverse ++ fr = r.reverse ++ e :: fr := by rw [List.reverse_cons, List.append_assoc]; rfl
      refine ih (e :: fr) u1 x3 _ e3 t1 eF (FSEG.fr s1.2 (fun j hj => sN j (er j (List.mem_append_left _ hj)))) ⟨by rw [eN, if_pos rfl]; exact ef, FSEG.fr s2 (fun j hj => sN j (er j (List.mem_append_right _ hj)))⟩ (List.perm_middle.nodup_iff.mpr nd) (fun j hj => hl j (List.mem_cons_of_mem _ hj)) (fun u l2 l3 tu f2 q2 g2 s3 o2 => ?_)
      refine hK u l2 l3 tu (f1.tr f2) (by rw [q2, eu]) (by rw [rv]; exact g2) (by rw [rv]; exact s3) (fun j hj => ?_)
      rw [o2 j (fun q => hj (List.mem_cons_of_mem _ q)), sN j (fun q => hj (by rw [q]; exact List.mem_cons_self))]
    refine go _ ty2 rfl _ ?_
    show σ.2.2.1 r_eNext (nI e).toNatClampNeg = _
    rw [ec]; exact s1.1
abbrev emH : List Nat := [r_kSort, r_kHead, r_kTail, r_kMany, r_tAt, r_tLen, r_eNext]
/-- a key's record without its contents, and of a sort -/
def bare (x : KR) (s : Int32) : KR := (x.1, x.2.1, s, x.2.2.2.1, x.2.2.2.2.1, [], [])
set_option maxRecDepth 100000 in
theorem c_empty {σ : mjS} {hs : Nat} {A B : List KR} {x : KR} {fk fe : List Nat} (h : KS σ hs (A ++ x :: B) fk fe) (ty : mjTY σ) : mjY mjPP (mjQQ Y) (d + 1) 14 0 (mjL0 4 [.ref 0, .int (nI x.1)]) [] σ (fun r u => r = none ∧ Fr [f_eFree] emH σ u ∧ KS u hs (A ++ bare x x.2.2.1 :: B) fk ((ids x.2.2.2.2.2.2).reverse ++ fe)) := by
  have h0 := h
  obtain ⟨a1, a2, a3, a4, a5, a6, a7, a8, a9, a10, a11, a12, a13, a14, a15, a16, a17⟩ := h
  have hx : x ∈ A ++ x :: B := List.mem_append_right _ List.mem_cons_self
  have hk := a5 x hx
  obtain ⟨k1, k2, k3, k4, k5, k6, k7, k8, k9, k10, k11⟩ := hk
  have kc : (nI x.1).toNatClampNeg = x.1 := nI_clamp (by omega)
  have kv : vp_in (nI x.1) 4700 := vp_in_nI k1 (by decide)
  have n0 := List.nodup_append.mp a11
  have mem : ∀ j, j ∈ ids x.2.2.2.2.2.2 → j ∈ eIds (A ++ x :: B) := fun j hj => mem_eIds hx hj
  have nds : (ids x.2.2.2.2.2.2 ++ fe).Nodup := by
    refine List.nodup_append.mpr ⟨?_, n0.2.1, fun a ha b hb => n0.2.2 a (mem a ha) b hb⟩
    have z := n0.1
    rw [eIds_app, eIds_cons] at z
    exact (List.nodup_append.mp (List.nodup_append.mp z).2.1).1
  refine mjZ_y rfl rfl 5 _ _ _ _ ty ?_
  refine And.intro rfl (And.intro rfl (And.intro kv (And.intro (Nat.le_of_ble_eq_true rfl) ?_)))
  refine c_empty_loop _ x.1 (ids x.2.2.2.2.2.2) fe σ _ _ (by show σ.2.2.1 r_kHead (nI x.1).toNatClampNeg = _; rw [kc]; exact k7) ty a14 k10.f a15 nds (fun j hj => a12 j (List.mem_append_left _ (mem j hj))) (fun u1 l2 l3 ty1 f1 q1 g1 s1 o1 => ?_)
  refine mjZ_y rfl rfl 8 _ _ _ _ ty1 ?_
  refine And.intro rfl (And.intro rfl (And.intro kv ?_))
  have es : u1.2.2.1 r_kSort (nI x.1).toNatClampNeg = x.2.2.1 := by rw [kc, (f1.2.2 r_kSort (by decide)).1]; exact k3
  have cb := c_blank (Y := Y) (d := d) x.1 k1 (u1.2.2.1 r_kSort (nI x.1).toNatClampNeg) u1 ty1
  refine And.intro (Nat.le_of_ble_eq_true rfl) (And.intro rfl (And.intro (Nat.le_of_ble_eq_true rfl) (And.intro (Nat.le_of_ble_eq_true rfl) (mjY_mono ty1 (fun v u ty2 hb => ?_) cb))))
  obtain ⟨rfl, b1, b2, b3, b4, b5, b6, b7, b8, b9⟩ := hb
  intro _
  have f : Fr [f_eFree] emH σ u := (f1.up (fun _ q => q) (by decide)).tr (b1.up (fun _ q => by cases q) (by decide))
  have row : ∀ g, g ∉ emH → u.2.2.1 g = σ.2.2.1 g := fun g hg => (f.2.2 g hg).1
  have qS : u.2.2.2 = σ.2.2.2 := b2.trans q1
  have uN : ∀ j, j ∉ ids x.2.2.2.2.2.2 → u.2.2.1 r_eNext j = σ.2.2.1 r_eNext j := fun j hj => by rw [(b1.2.2 r_eNext (by decide)).1, o1 j hj]
  have aH : AgH σ u hs := fun j _ => by rw [row r_heap (by decide)]
  refine And.intro rfl (And.intro rfl (And.intro rfl (And.intro f ?_)))
  refine KS.one h0 (x' := bare x x.2.2.1) rfl ((f.1 _ (by decide)).trans a1) (Nat.le_refl _) a2 (f.1 _ (by decide)) (f.1 _ (by decide)) ((b1.1 f_eFree (by decide)).trans g1) (row _ (by decide)) (row _ (by decide)) ?_ ?_ aH ?_ ?_ ?_ ?_
  · intro j hj
    refine ⟨fun g hg => ?_, by rw [qS]⟩
    rw [b3 g j hj, (f1.2.2 g ((by decide : ∀ g ∈ kRows, g ∉ [r_eNext]) g hg)).1]
  · intro j hj hf
    refine ⟨fun g hg => ?_, by rw [qS]⟩
    rcases (by decide : ∀ g ∈ eRows, g = r_eNext ∨ g ∉ emH) g hg with rfl | c
    · exact uN j hj
    · rw [row g c]
  · refine ⟨k1, k2.fr (by rw [row r_kAt (by decide)]) (by rw [row r_kLen (by decide)]) aH (Nat.le_refl _), b4.trans es, by rw [row r_kTimed (by decide)]; exact k4, by rw [qS]; exact k5, ⟨0, by decide, b8, b9, Or.inl rfl⟩, b5, b6, b7, trivial, fun y hy => by cases hy⟩
  · exact List.Perm.append_right _ (List.reverse_perm _)
  · exact FSEG.fr s1 (fun j _ => by rw [(b1.2.2 r_eNext (by decide)).1])
  · intro j hj
    have g0 : GA σ r_eAt j ∧ GA σ r_vAt j := by
      rcases List.mem_append.mp hj with hj | hj
      · obtain ⟨y, hy, rfl⟩ := List.mem_map.mp (List.mem_reverse.mp hj)
        obtain ⟨-, ⟨p, p1, p2, -⟩, ⟨q, q1, q2, -⟩, -⟩ := k11 y hy
        exact ⟨⟨p, p1, p2⟩, q, q1, q2⟩
      · exact a16 j hj
    obtain ⟨⟨p, p1, p2⟩, q, q1, q2⟩ := g0
    exact ⟨⟨p, p1, by rw [row r_eAt (by decide)]; exact p2⟩, q, q1, by rw [row r_vAt (by decide)]; exact q2⟩
end EMPTY
