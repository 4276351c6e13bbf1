/-! ZADD, ZINCRBY. -/
theorem zoC_len {f : F6} {r : List (List Int32)} (h : ¬ zoC f r) : 2 ≤ r.length ∧ r.length % 2 = 0 ∧ ((¬ f.2.2.2.2.2 = 0) → r.length = 2) := by
  have h1 : ¬ r.length < 2 := fun z => h (Or.inl z)
  have h2 : ¬ r.length % 2 = 1 := fun z => h (Or.inr (Or.inl z))
  refine ⟨by omega, by omega, fun z => ?_⟩
  have h3 : ¬ 2 < r.length := fun y => h (Or.inr (Or.inr (Or.inl ⟨z, y⟩)))
  omega
theorem zoR_no {ws : List (List Int32)} (h : zoF (ws.drop 2) (0, 0, 0, 0, 0, 0) = none ∨ ∃ q, zoF (ws.drop 2) (0, 0, 0, 0, 0, 0) = some q ∧ zoC q.1 q.2) : zoR ws = none := by
  unfold zoR
  rcases h with h | ⟨q, h1, h2⟩
  · rw [h]; rfl
  · rw [h1]; show zoE q.1 q.2 = none
    unfold zoE; rw [if_pos (by rw [@decide_eq_true_iff _ (zoD q.1 q.2)]; exact h2)]
theorem zoR_at {ws : List (List Int32)} {f : F6} {r : List (List Int32)} (h : zoF (ws.drop 2) (0, 0, 0, 0, 0, 0) = some (f, r)) (hn : ¬ zoC f r) : zoR ws = if zOb r = true then some (f, r) else none := by
  unfold zoR; rw [h]
  show zoE f r = _
  unfold zoE; rw [if_neg (by rw [@decide_eq_true_iff _ (zoD f r)]; exact hn)]
section KZADD3
variable {Y : Nat → MethodName × ByteArray} {d : Nat} {σ0 σ u : kS} {B ws nm nm' : List (List Int32)} {ks : List KC}
theorem k_zint_l {o : Option (List AK)} (hr : RSD ks) {p : Nat} (hno : ¬ zOb (ws.drop p) = true → o = none)
    (hK : ∀ (u : kS) (x1 : Int32), kTY u → KWd σ0 B u ws nm ks → SCl scB σ u → zOb (ws.drop p) = true → (∀ n s, p + 2 * (n + 1) = ws.length → ws[p + 2 * n]? = some s → ∃ z, intF s = some z ∧ u.2.1 53 9 = z) → kjY kPP (kQQ Y) (d + 8) 238 24 [some (.ref 75), some (.int x1), none] [] u (cdP σ0 B σ ws nm ks o)) :
    ∀ (f m : Nat) (x1 : Int32) (u : kS), p + 2 * m + 2 * f = ws.length → x1 = nI (p + 2 * m) → kTY u → KWd σ0 B u ws nm ks → SCl scB σ u → (zOb (ws.drop (p + 2 * m)) = zOb (ws.drop p)) → (∀ n s, m = n + 1 → ws[p + 2 * n]? = some s → ∃ z, intF s = some z ∧ u.2.1 53 9 = z) →
    kjY kPP (kQQ Y) (d + 8) 238 11 [some (.ref 75), some (.int x1), none] [] u (cdP σ0 B σ ws nm ks o) := by
  intro f
  induction f with
  | zero =>
    intro m x1 u hj e1 tu wu su hz hl
    obtain ⟨g, M, -, -, ⟨h4, h1024⟩, -⟩ := wu.2.2.2.1
    refine kjZ_y rfl rfl 5 _ _ _ _ tu ?_
    refine (And.intro (tu.k (by decide) rfl) (And.intro (tu.k (by decide) rfl) (And.intro (fun c1 => ?_) (fun c1 => ?_))))
    rotate_left
    · refine absurd (show u.1 53 4 ≤ x1 from ?_) c1
      rw [h4, e1, nle (by omega) (by omega)]; omega
    refine hK u x1 tu wu su ?_ (fun n s h1 h2 => hl n s (by omega) h2)
    rw [← hz, List.drop_eq_nil_of_le (by omega)]; rfl
  | succ f ih =>
    intro m x1 u hj e1 tu wu su hz hl
    obtain ⟨g, M, -, -, ⟨h4, h1024⟩, -⟩ := wu.2.2.2.1
    have hjl : p + 2 * m + 1 < ws.length := by omega
    have hd : ws.drop (p + 2 * m) = ws[p + 2 * m] :: ws[p + 2 * m + 1] :: ws.drop (p + 2 * m + 2) := by
      rw [List.drop_eq_getElem_cons (by omega), List.drop_eq_getElem_cons hjl]
    refine kjZ_y rfl rfl 5 _ _ _ _ tu ?_
    refine (And.intro (tu.k (by decide) rfl) (And.intro (tu.k (by decide) rfl) (And.intro (fun c1 => ?_) (fun c1 => ?_))))
    · refine absurd (show u.1 53 4 ≤ x1 from c1) ?_
      rw [h4, e1, nle (by omega) (by omega)]; omega
    have hv := List.getElem?_eq_getElem (show p + 2 * m < ws.length by omega)
    generalize ws[p + 2 * m] = v at hv hd
    generalize ws[p + 2 * m + 1] = v2 at hd
    have hzz : zOb (ws.drop (p + 2 * m)) = ((intF v).isSome && zOb (ws.drop (p + 2 * m + 2))) := by rw [hd]; rfl
    refine kjZ_y rfl rfl 4 _ _ _ _ tu ?_
    refine (And.intro (tu.k (by decide) rfl) (And.intro (Nat.le_of_ble_eq_true rfl) (And.intro (Or.inl ⟨(Nat.le_of_ble_eq_true rfl), (tu.k (by decide) rfl)⟩) (And.intro (Nat.le_of_ble_eq_true rfl) (And.intro (Nat.le_of_ble_eq_true rfl) (kjY_mono tu (fun q_ u0 ty0 xu0 h_ => ?_) (kx_lacksInteger tu wu hv _ e1)))))))
    obtain ⟨w0, s9, q⟩ := h_
    intro _ _
    rcases q with ⟨n, q1, rfl, e9⟩ | ⟨q1, rfl⟩
    rotate_left
    · refine kjZ_y rfl rfl 1 _ _ _ _ ty0 ?_
      refine And.intro (fun c2 => ?_) (fun c2 => ?_)
      · exact absurd (show (1 : Int32) = 0 from c2) (by decide)
      refine kjZ_y rfl rfl 1 _ _ _ _ ty0 ?_
      refine And.intro rfl (And.intro rfl ?_)
      refine cd_no PRE.rf w0 hr ((su.tr s9).sub scHB) (hno ?_)
      rw [← hz, hzz, q1]; exact Bool.false_ne_true
    refine kjZ_y rfl rfl 1 _ _ _ _ ty0 ?_
    refine And.intro (fun c2 => ?_) (fun c2 => ?_)
    rotate_left
    · exact absurd rfl c2
    refine kjZ_y rfl rfl 2 _ _ _ _ ty0 ?_
    refine ih (m + 1) _ u0 (by omega) (by rw [e1]; exact nI_add (p + 2 * m) 2) ty0 w0 (su.tr s9) ?_ ?_
    · rw [← hz, hzz, q1]
      show zOb (ws.drop (p + 2 * m + 2)) = (true && _)
      rw [Bool.true_and]
    · intro n' s h1 h2
      have : n' = m := by omega
      subst this
      rw [hv] at h2
      obtain rfl := Option.some.inj h2
      exact ⟨n, q1, e9⟩
theorem kx_zadd (ty : kTY σ) (w : KWd σ0 B σ ws nm ks) (hr : RSD ks) (hB : BOK B ws) {j : Nat} (hj : CMD σ j) {v : List Int32} (hv : ws[1]? = some v) (hl2 : 2 ≤ ws.length) (hS : ∀ x ∈ ks, x.2.2.2.2.2.2.1 = 4 → ZP x.2.2.2.2.2.2.2.2.2.2) (hk1 : ks.length + 1 ≤ 2600) (hcl : 3 * (clA (skA ks) + 2 * ws.length) ≤ 49000) {o : Option (List AK)} (ho1 : zoR ws = none → o = none) (ho2 : rfZ (σ.1 59 17) ks j v 4 → o = none) (ho3 : ∀ q, zoR ws = some q → ¬ rfZ (σ.1 59 17) ks j v 4 → o = zdF q.1.1 q.1.2.1 q.1.2.2.1 q.1.2.2.2.1 q.1.2.2.2.2.2 (skA ks) v q.2) :
    kjY kPP (kQQ Y) (d + 9) 238 0 (mjL0 3 [.ref 75]) [] σ (cdP σ0 B σ ws nm ks o) := by
  have hlen := (List.getElem?_eq_some_iff.mp hv).1
  refine kjZ_y rfl rfl 2 _ _ _ _ ty ?_
  refine (And.intro (Nat.le_of_ble_eq_true rfl) (And.intro (Or.inl ⟨(Nat.le_of_ble_eq_true rfl), (ty.k (by decide) rfl)⟩) (And.intro (Nat.le_of_ble_eq_true rfl) (And.intro (Nat.le_of_ble_eq_true rfl) (kjY_mono ty (fun q_ u1 ty1 xu1 h_ => ?_) (kx_readFlags ty w hl2))))))
  obtain ⟨w1, s1, q⟩ := h_
  intro _ _
  have hH1 : SCl scH σ u1 := s1.sub (by decide +kernel)
  rcases q with ⟨rfl, q⟩ | ⟨a, b, c, d1, e, g, p, rfl, hz1, hz2, hp2, hpl, h75, h754⟩
  · refine kjZ_y rfl rfl 1 _ _ _ _ ty1 ?_
    refine And.intro (fun c => ?_) (fun c => ?_)
    · exact absurd rfl c
    refine kjZ_y rfl rfl 4 _ _ _ _ ty1 ?_
    refine (And.intro (ty1.k (by decide) rfl) (And.intro rfl (And.intro (Nat.le_of_ble_eq_true rfl) (And.intro (Or.inl ⟨(Nat.le_of_ble_eq_true rfl), (ty1.k (by decide) rfl)⟩) (And.intro (Nat.le_of_ble_eq_true rfl) (And.intro (Nat.le_of_ble_eq_true rfl) (kjY_mono ty1 (fun q_ u2 ty2 xu2 h_ => ?_) (kx_refuse ty1 w1 (i := 160) (by decide)))))))))
    obtain ⟨rfl, w2, s2⟩ := h_
    intro _ _
    refine kjZ_y rfl rfl 1 _ _ _ _ ty2 ?_
    refine And.intro rfl (And.intro rfl ?_)
    exact cd_no PRE.rf w2 hr (hH1.tr s2.h) (ho1 (zoR_no q))
  refine kjZ_y rfl rfl 1 _ _ _ _ ty1 ?_
  refine And.intro (fun c0 => ?_) (fun c0 => ?_)
  rotate_left
  · exact absurd (show ¬ (1 : Int32) = 0 by decide) c0
  obtain ⟨hl3, hl4, hl5⟩ := zoC_len hz2
  rw [List.length_drop] at hl3 hl4 hl5
  have hzR := zoR_at hz1 hz2
  refine kjZ_y rfl rfl 3 _ _ _ _ ty1 ?_
  refine (And.intro (ty1.k (by decide) rfl) (And.intro (Nat.le_of_ble_eq_true rfl) ?_))
  show kjY kPP (kQQ Y) (d + 9) 238 11 [some (.ref 75), some (.int (u1.1 75 4)), none] [] u1 (cdP σ0 B σ ws nm ks o)
  refine kjY_mono (K := cdP σ0 B u1 ws nm ks o) ty1 (fun r z _ _ hz => cdP.pre hz hH1 PRE.rf) ?_
  refine k_zint_l (σ := u1) (d := d + 1) hr (p := p) (fun h => ho1 (by rw [hzR, if_neg h])) (fun u x1 tu wu su hzb hlast => ?_) ((ws.length - p) / 2) 0 _ u1 (by omega) h754 ty1 w1 SCl.rf rfl (fun n s h => absurd h (by omega))
  have hok : zOK (ws.drop p) := zOb_ok _ _ (Nat.le_refl _) (by rw [List.length_drop]; exact hl4) hzb
  rw [if_pos hzb] at hzR
  have hHu : SCl scH σ u := hH1.tr (su.sub scHB)
  have f75 : u.1 75 3 = enF a b c d1 e g := (su (75, 3) (by decide)).1.trans h75
  have f754 : u.1 75 4 = nI p := (su (75, 4) (by decide)).1.trans h754
  refine kjZ_y rfl rfl 6 _ _ _ _ tu ?_
  refine (And.intro (tu.k (by decide) rfl) (And.intro (Nat.le_of_ble_eq_true rfl) (And.intro (Or.inl ⟨(Nat.le_of_ble_eq_true rfl), (tu.k (by decide) rfl)⟩) (And.intro (Nat.le_of_ble_eq_true rfl) (And.intro (Nat.le_of_ble_eq_true rfl) (kjY_mono tu (fun q_ u2 ty2 xu2 h_ => ?_) (kx_refuses tu wu hB (hj.sc hHu) (a := 1) (b := 1) (by omega) (by omega) (s := 4) (by decide) _ _ _ rfl rfl rfl)))))))
  obtain ⟨nm1, p1, w2, s2, q⟩ := h_
  intro _ _
  rw [rf1 wu hv, (hHu (59, 17) (by decide)).1] at q
  rcases q with ⟨rfl, q⟩ | ⟨rfl, q⟩
  · refine kjZ_y rfl rfl 1 _ _ _ _ ty2 ?_
    refine And.intro (fun c2 => ?_) (fun c2 => ?_)
    · exact absurd (show (1 : Int32) = 0 from c2) (by decide)
    refine kjZ_y rfl rfl 1 _ _ _ _ ty2 ?_
    refine And.intro rfl (And.intro rfl ?_)
    exact cd_no p1 w2 hr ((su.sub scHB).tr s2.h) (ho2 q)
  have ho := ho3 _ hzR q
  have ho : o = zdF (bI a) (bI b) (bI c) (bI d1) (bI g) (skA ks) v (ws.drop p) := ho
  have hso := fun z => q (Or.inr z)
  refine kjZ_y rfl rfl 1 _ _ _ _ ty2 ?_
  refine And.intro (fun c2 => ?_) (fun c2 => ?_)
  rotate_left
  · exact absurd rfl c2
  refine kjZ_y rfl rfl 4 _ _ _ _ ty2 ?_
  refine (And.intro (ty2.k (by decide) rfl) (And.intro (Nat.le_of_ble_eq_true rfl) (And.intro (Or.inl ⟨(Nat.le_of_ble_eq_true rfl), (ty2.k (by decide) rfl)⟩) (And.intro (Nat.le_of_ble_eq_true rfl) (And.intro (Nat.le_of_ble_eq_true rfl) (kjY_mono ty2 (fun q_ u3 ty3 xu3 h_ => ?_) (kx_id ty2 w2 hB hv _ rfl)))))))
  obtain ⟨k, nm2, rfl, p2, p3, w3, s3⟩ := h_
  intro _ _
  refine kjZ_y rfl rfl 5 _ _ _ _ ty3 ?_
  refine (And.intro (Nat.le_of_ble_eq_true rfl) (And.intro (ty3.k (by decide) rfl) (And.intro (Nat.le_of_ble_eq_true rfl) (And.intro (Or.inl ⟨(Nat.le_of_ble_eq_true rfl), (ty3.k (by decide) rfl)⟩) (And.intro (Nat.le_of_ble_eq_true rfl) (And.intro (Nat.le_of_ble_eq_true rfl) (kjY_mono ty3 (fun q_ u4 ty4 xu4 h_ => ?_) (kx_find ty3 w3 p2 _ rfl))))))))
  obtain ⟨rfl, q3⟩ := h_
  intro _ _
  have s34 : SCl scA u u4 := s2.tr s3
  have pA := p1.tr p3
  have g75 : u4.1 75 3 = enF a b c d1 e g := (s34 (75, 3) (by decide)).1.trans f75
  have g754 : u4.1 75 4 = nI p := (s34 (75, 4) (by decide)).1.trans f754
  have sHu : SCl scH u1 u4 := (su.sub scHB).tr s34.h
  -- INCR asks one pair
  have inc1 : g = true → ∃ s v3 n, ws.drop p = [s, v3] ∧ ws[p + 1]? = some v3 ∧ intF s = some n ∧ u4.2.1 53 9 = n := by
    intro hg
    have hl6 := hl5 (by show ¬ bI g = 0; rw [hg]; decide)
    have hjl : p + 1 < ws.length := by omega
    have hd : ws.drop p = ws[p] :: ws[p + 1] :: ws.drop (p + 2) := by
      rw [List.drop_eq_getElem_cons (by omega), List.drop_eq_getElem_cons hjl]
    obtain ⟨n, g1, g2⟩ := hlast 0 ws[p] (by omega) (List.getElem?_eq_getElem (show p + 2 * 0 < ws.length by omega))
    refine ⟨ws[p], ws[p + 1], n, by rw [hd, List.drop_eq_nil_of_le (show ws.length ≤ p + 2 by omega)], List.getElem?_eq_getElem hjl, g1, ?_⟩
    exact (s34 (53, 9) (by decide)).2.1.trans g2
  rcases q3 with ⟨rfl, q3⟩ | ⟨P, y, Q, rfl, f0, f1, f2⟩
  · refine kjZ_y rfl rfl 4 _ _ _ _ ty4 ?_
    refine (And.intro (Nat.le_of_ble_eq_true rfl) (And.intro (Nat.le_of_ble_eq_true rfl) (And.intro (Or.inl ⟨(Nat.le_of_ble_eq_true rfl), (ty4.k (by decide) rfl)⟩) (And.intro (Nat.le_of_ble_eq_true rfl) (And.intro (Nat.le_of_ble_eq_true rfl) (kjY_mono ty4 (fun q_ u5 ty5 xu5 h_ => ?_) (kx_told ty4 _)))))))
    obtain ⟨rfl, q5⟩ := h_
    intro _ _
    rcases q5 with ⟨rfl, q5⟩ | ⟨rfl, q5⟩
    · have q5 : ¬ u5.1 75 3 &&& 32 = 0 := q5
      rw [g75, enF_32] at q5
      have hg : g = true := by cases g; exact absurd rfl q5; rfl
      obtain ⟨s, v3, n, i1, i2, i3, i4⟩ := inc1 hg
      rw [i1, hg, zd_in (by decide) i3] at ho
      refine kjZ_y rfl rfl 1 _ _ _ _ ty5 ?_
      refine And.intro (fun c3 => ?_) (fun c3 => ?_)
      · exact absurd (show (1 : Int32) = 0 from c3) (by decide)
      refine kjZ_y rfl rfl 10 _ _ _ _ ty5 ?_
      refine (And.intro (ty5.k (by decide) rfl) (And.intro (ty5.k (by decide) rfl) (And.intro (Nat.le_of_ble_eq_true rfl) (And.intro (Or.inl ⟨(Nat.le_of_ble_eq_true rfl), (ty5.k (by decide) rfl)⟩) (And.intro (Nat.le_of_ble_eq_true rfl) (And.intro (Nat.le_of_ble_eq_true rfl) (kjY_mono ty5 (fun q_ u6 ty6 xu6 h_ => ?_) (kx_id ty5 w3 hB i2 _ (by rw [g754]; exact nI_1 p)))))))))
      obtain ⟨k3, nm3, rfl, p4, p5, w6, s6⟩ := h_
      intro _ _
      refine kjZ_y rfl rfl 1 _ _ _ _ ty6 ?_
      refine (And.intro (Nat.le_of_ble_eq_true rfl) (And.intro (Or.inl ⟨(Nat.le_of_ble_eq_true rfl), (ty6.k (by decide) rfl)⟩) (And.intro (Nat.le_of_ble_eq_true rfl) (And.intro (Nat.le_of_ble_eq_true rfl) (kjY_mono ty6 (fun q_ u7 ty7 xu7 h_ => ?_) (kx_incr0 (d := d + 1) ty6 w6 hr (p5.get p2) p4 q3 a b c d1 e g ((s6 (75, 3) (by decide)).1.trans g75) ((s6 (53, 9) (by decide)).2.1.trans i4) hk1 (by omega) _ _ rfl rfl))))))
      have q7 := h_
      intro _ _
      obtain ⟨rfl, -⟩ := id q7
      refine kjZ_y rfl rfl 2 _ _ _ _ ty7 ?_
      refine And.intro rfl (And.intro rfl ?_)
      rw [ho]
      exact q7.pre (sHu.tr s6.h) (pA.tr p5)
    · have q5 : u5.1 75 3 &&& 32 = 0 := q5
      rw [g75, enF_32] at q5
      rw [q5] at ho g75
      refine kjZ_y rfl rfl 1 _ _ _ _ ty5 ?_
      refine And.intro (fun c3 => ?_) (fun c3 => ?_)
      rotate_left
      · exact absurd rfl c3
      refine kjZ_y rfl rfl 4 _ _ _ _ ty5 ?_
      refine (And.intro (Nat.le_of_ble_eq_true rfl) (And.intro (Or.inl ⟨(Nat.le_of_ble_eq_true rfl), (ty5.k (by decide) rfl)⟩) (And.intro (Nat.le_of_ble_eq_true rfl) (And.intro (Nat.le_of_ble_eq_true rfl) (kjY_mono ty5 (fun q_ u7 ty7 xu7 h_ => ?_) (kx_addPairs0 (d := d + 2) ty5 w3 hr hB p2 q3 a b c d1 e g75 (p := p) (m := (ws.length - p) / 2 - 1) g754 (by omega) hok hk1 hcl _ rfl))))))
      have q7 := h_
      intro _ _
      obtain ⟨rfl, -⟩ := id q7
      refine kjZ_y rfl rfl 1 _ _ _ _ ty7 ?_
      refine And.intro rfl (And.intro rfl ?_)
      rw [ho]
      exact q7.pre sHu pA
  · have ks0 := f0
    subst f0
    have hs4 : y.2.2.2.2.2.2.1 = 4 := so_1 (s := 4) f2 hso
    have hs0 : ¬ y.2.2.2.2.2.2.1 = 0 := by rw [hs4]; decide
    have hZ := hS y (List.mem_append_right _ List.mem_cons_self) hs4
    have kv := (w3.sz hs0).2.2
    refine kjZ_y rfl rfl 4 _ _ _ _ ty4 ?_
    refine (And.intro (Nat.le_of_ble_eq_true rfl) (And.intro (Nat.le_of_ble_eq_true rfl) (And.intro (Or.inl ⟨(Nat.le_of_ble_eq_true rfl), (ty4.k (by decide) rfl)⟩) (And.intro (Nat.le_of_ble_eq_true rfl) (And.intro (Nat.le_of_ble_eq_true rfl) (kjY_mono ty4 (fun q_ u5 ty5 xu5 h_ => ?_) (kx_told ty4 _)))))))
    obtain ⟨rfl, q5⟩ := h_
    intro _ _
    rcases q5 with ⟨rfl, q5⟩ | ⟨rfl, q5⟩
    · have q5 : ¬ u5.1 75 3 &&& 32 = 0 := q5
      rw [g75, enF_32] at q5
      have hg : g = true := by cases g; exact absurd rfl q5; rfl
      obtain ⟨s, v3, n, i1, i2, i3, i4⟩ := inc1 hg
      rw [i1, hg, zd_in (by decide) i3] at ho
      refine kjZ_y rfl rfl 1 _ _ _ _ ty5 ?_
      refine And.intro (fun c3 => ?_) (fun c3 => ?_)
      · exact absurd (show (1 : Int32) = 0 from c3) (by decide)
      refine kjZ_y rfl rfl 10 _ _ _ _ ty5 ?_
      refine (And.intro (ty5.k (by decide) rfl) (And.intro (ty5.k (by decide) rfl) (And.intro (Nat.le_of_ble_eq_true rfl) (And.intro (Or.inl ⟨(Nat.le_of_ble_eq_true rfl), (ty5.k (by decide) rfl)⟩) (And.intro (Nat.le_of_ble_eq_true rfl) (And.intro (Nat.le_of_ble_eq_true rfl) (kjY_mono ty5 (fun q_ u6 ty6 xu6 h_ => ?_) (kx_id ty5 w3 hB i2 _ (by rw [g754]; exact nI_1 p)))))))))
      obtain ⟨k3, nm3, rfl, p4, p5, w6, s6⟩ := h_
      intro _ _
      have kv6 : (u6.2.2.2.1 y.1).1 = 11 := xu6.k ty5 kv (by decide)
      refine kjZ_y rfl rfl 1 _ _ _ _ ty6 ?_
      refine (And.intro (Nat.le_of_ble_eq_true rfl) (And.intro (Or.inl ⟨(Nat.le_of_ble_eq_true rfl), (ty6.k (by decide) rfl)⟩) (And.intro (Nat.le_of_ble_eq_true rfl) (And.intro (Nat.le_of_ble_eq_true rfl) (kjY_mono ty6 (fun q_ u7 ty7 xu7 h_ => ?_) (kx_incr1 (d := d + 1) ty6 w6 hr (p5.get p2) p4 f2 f1 hs4 hZ a b c d1 e g ((s6 (75, 3) (by decide)).1.trans g75) ((s6 (53, 9) (by decide)).2.1.trans i4) (by omega) _ _ rfl rfl))))))
      have q7 := h_
      intro _ _
      obtain ⟨rfl, -⟩ := id q7
      refine kjZ_y rfl rfl 2 _ _ _ _ ty7 ?_
      refine And.intro rfl (And.intro rfl ?_)
      rw [ho]
      exact q7.pre (sHu.tr s6.h) (pA.tr p5)
    · have q5 : u5.1 75 3 &&& 32 = 0 := q5
      rw [g75, enF_32] at q5
      rw [q5] at ho g75
      refine kjZ_y rfl rfl 1 _ _ _ _ ty5 ?_
      refine And.intro (fun c3 => ?_) (fun c3 => ?_)
      rotate_left
      · exact absurd rfl c3
      refine kjZ_y rfl rfl 4 _ _ _ _ ty5 ?_
      refine (And.intro (Nat.le_of_ble_eq_true rfl) (And.intro (Or.inl ⟨(Nat.le_of_ble_eq_true rfl), (ty5.k (by decide) rfl)⟩) (And.intro (Nat.le_of_ble_eq_true rfl) (And.intro (Nat.le_of_ble_eq_true rfl) (kjY_mono ty5 (fun q_ u7 ty7 xu7 h_ => ?_) (kx_addPairs1 (d := d + 2) ty5 w3 hr hB p2 f2 f1 hs4 hZ a b c d1 e g75 (p := p) (m := (ws.length - p) / 2) g754 (by omega) hok hcl _ rfl))))))
      have q7 := h_
      intro _ _
      obtain ⟨rfl, -⟩ := id q7
      refine kjZ_y rfl rfl 1 _ _ _ _ ty7 ?_
      refine And.intro rfl (And.intro rfl ?_)
      rw [ho]
      exact q7.pre sHu pA
theorem kx_zincrby (ty : kTY σ) (w : KWd σ0 B σ ws nm ks) (hr : RSD ks) (hB : BOK B ws) {j : Nat} (hj : CMD σ j) {v a2 a3 : List Int32} (hv : ws[1]? = some v) (h2 : ws[2]? = some a2) (h3 : ws[3]? = some a3) (hS : ∀ x ∈ ks, x.2.2.2.2.2.2.1 = 4 → ZP x.2.2.2.2.2.2.2.2.2.2) (hk1 : ks.length + 1 ≤ 2600) (hcl : 3 * (clA (skA ks) + 4) ≤ 49000) {o : Option (List AK)} (ho1 : intF a2 = none → o = none) (ho2 : rfZ (σ.1 59 17) ks j v 4 → o = none) (ho3 : ∀ n, intF a2 = some n → ¬ rfZ (σ.1 59 17) ks j v 4 → o = ziF (skA ks) v a3 n) :
    kjY kPP (kQQ Y) (d + 9) 240 0 (mjL0 2 [.ref 75]) [] σ (cdP σ0 B σ ws nm ks o) := by
  have hlen := (List.getElem?_eq_some_iff.mp hv).1
  refine kjZ_y rfl rfl 3 _ _ _ _ ty ?_
  refine (And.intro (ty.k (by decide) rfl) (And.intro (Or.inl rfl) (fun ty' => ?_)))
  have go : ∀ z, kTY z → z = (mjIu σ.1 75 3 (Int8.ofInt 32).toInt32, σ.2) → kjY kPP (kQQ Y) (d + 9) 240 3 [some (.ref 75), none] [] z (cdP σ0 B σ ws nm ks o) := by
    intro z tz ez
    have wz : KWd σ0 B z ws nm ks := by rw [ez]; exact w.pi ty (by decide)
    have sz : SCl scH σ z := by rw [ez]; exact SCl.i (by decide)
    have z75 : z.1 75 3 = enF false false false false false true := by rw [ez]; rfl
    refine kjZ_y rfl rfl 4 _ _ _ _ tz ?_
    refine (And.intro (tz.k (by decide) rfl) (And.intro (Nat.le_of_ble_eq_true rfl) (And.intro (Or.inl ⟨(Nat.le_of_ble_eq_true rfl), (tz.k (by decide) rfl)⟩) (And.intro (Nat.le_of_ble_eq_true rfl) (And.intro (Nat.le_of_ble_eq_true rfl) (kjY_mono tz (fun q_ u0 ty0 xu0 h_ => ?_) (kx_lacksInteger tz wz h2 _ rfl)))))))
    obtain ⟨w0, s0, q⟩ := h_
    intro _ _
    have hH : SCl scH σ u0 := sz.tr (s0.sub scHB)
    rcases q with ⟨n, q1, rfl, e9⟩ | ⟨q1, rfl⟩
    rotate_left
    · refine kjZ_y rfl rfl 1 _ _ _ _ ty0 ?_
      refine And.intro (fun c => ?_) (fun c => ?_)
      rotate_left
      · exact absurd (show ¬ (1 : Int32) = 0 by decide) c
      refine kjZ_y rfl rfl 1 _ _ _ _ ty0 ?_
      refine And.intro rfl (And.intro rfl ?_)
      exact cd_no PRE.rf w0 hr hH (ho1 q1)
    refine kjZ_y rfl rfl 1 _ _ _ _ ty0 ?_
    refine And.intro (fun c => ?_) (fun c => ?_)
    · exact absurd rfl c
    refine kjZ_y rfl rfl 6 _ _ _ _ ty0 ?_
    refine (And.intro (ty0.k (by decide) rfl) (And.intro (Nat.le_of_ble_eq_true rfl) (And.intro (Or.inl ⟨(Nat.le_of_ble_eq_true rfl), (ty0.k (by decide) rfl)⟩) (And.intro (Nat.le_of_ble_eq_true rfl) (And.intro (Nat.le_of_ble_eq_true rfl) (kjY_mono ty0 (fun q_ u2 ty2 xu2 h_ => ?_) (kx_refuses ty0 w0 hB (hj.sc hH) (a := 1) (b := 1) (by omega) (by omega) (s := 4) (by decide) _ _ _ rfl rfl rfl)))))))
    obtain ⟨nm1, p1, w2, s2, q⟩ := h_
    intro _ _
    rw [rf1 w0 hv, (hH (59, 17) (by decide)).1] at q
    rcases q with ⟨rfl, q⟩ | ⟨rfl, q⟩
    · refine kjZ_y rfl rfl 1 _ _ _ _ ty2 ?_
      refine And.intro (fun c2 => ?_) (fun c2 => ?_)
      · exact absurd (show (1 : Int32) = 0 from c2) (by decide)
      refine kjZ_y rfl rfl 1 _ _ _ _ ty2 ?_
      refine And.intro rfl (And.intro rfl ?_)
      exact cd_no p1 w2 hr (hH.tr s2.h) (ho2 q)
    have ho := ho3 n q1 q
    rw [zi_in] at ho
    have ho : o = inO (bI false) (bI false) (bI false) (bI false) (skA ks) v a3 n := ho
    have hso := fun z => q (Or.inr z)
    refine kjZ_y rfl rfl 1 _ _ _ _ ty2 ?_
    refine And.intro (fun c2 => ?_) (fun c2 => ?_)
    rotate_left
    · exact absurd rfl c2
    refine kjZ_y rfl rfl 4 _ _ _ _ ty2 ?_
    refine (And.intro (ty2.k (by decide) rfl) (And.intro (Nat.le_of_ble_eq_true rfl) (And.intro (Or.inl ⟨(Nat.le_of_ble_eq_true rfl), (ty2.k (by decide) rfl)⟩) (And.intro (Nat.le_of_ble_eq_true rfl) (And.intro (Nat.le_of_ble_eq_true rfl) (kjY_mono ty2 (fun q_ u3 ty3 xu3 h_ => ?_) (kx_id ty2 w2 hB hv _ rfl)))))))
    obtain ⟨k, nm2, rfl, p2, p3, w3, s3⟩ := h_
    intro _ _
    refine kjZ_y rfl rfl 7 _ _ _ _ ty3 ?_
    refine (And.intro (Nat.le_of_ble_eq_true rfl) (And.intro (ty3.k (by decide) rfl) (And.intro (Nat.le_of_ble_eq_true rfl) (And.intro (Or.inl ⟨(Nat.le_of_ble_eq_true rfl), (ty3.k (by decide) rfl)⟩) (And.intro (Nat.le_of_ble_eq_true rfl) (And.intro (Nat.le_of_ble_eq_true rfl) (kjY_mono ty3 (fun q_ u4 ty4 xu4 h_ => ?_) (kx_find ty3 w3 p2 _ rfl))))))))
    obtain ⟨rfl, q3⟩ := h_
    intro _ _
    have s34 : SCl scA u0 u4 := s2.tr s3
    have pA := p1.tr p3
    have g75 : u4.1 75 3 = enF false false false false false true := ((s34 (75, 3) (by decide)).1.trans (s0 (75, 3) (by decide)).1).trans z75
    have g9 : u4.2.1 53 9 = n := (s34 (53, 9) (by decide)).2.1.trans e9
    rcases q3 with ⟨rfl, q3⟩ | ⟨P, y, Q, rfl, f0, f1, f2⟩
    · refine kjZ_y rfl rfl 4 _ _ _ _ ty4 ?_
      refine (And.intro (ty4.k (by decide) rfl) (And.intro (Nat.le_of_ble_eq_true rfl) (And.intro (Or.inl ⟨(Nat.le_of_ble_eq_true rfl), (ty4.k (by decide) rfl)⟩) (And.intro (Nat.le_of_ble_eq_true rfl) (And.intro (Nat.le_of_ble_eq_true rfl) (kjY_mono ty4 (fun q_ u6 ty6 xu6 h_ => ?_) (kx_id ty4 w3 hB h3 _ rfl)))))))
      obtain ⟨k3, nm3, rfl, p4, p5, w6, s6⟩ := h_
      intro _ _
      refine kjZ_y rfl rfl 1 _ _ _ _ ty6 ?_
      refine (And.intro (Nat.le_of_ble_eq_true rfl) (And.intro (Or.inl ⟨(Nat.le_of_ble_eq_true rfl), (ty6.k (by decide) rfl)⟩) (And.intro (Nat.le_of_ble_eq_true rfl) (And.intro (Nat.le_of_ble_eq_true rfl) (kjY_mono ty6 (fun q_ u7 ty7 xu7 h_ => ?_) (kx_incr0 (d := d + 1) ty6 w6 hr (p5.get p2) p4 q3 false false false false false true ((s6 (75, 3) (by decide)).1.trans g75) ((s6 (53, 9) (by decide)).2.1.trans g9) hk1 hcl _ _ rfl rfl))))))
      have q7 := h_
      intro _ _
      obtain ⟨rfl, -⟩ := id q7
      refine kjZ_y rfl rfl 1 _ _ _ _ ty7 ?_
      refine And.intro rfl (And.intro rfl ?_)
      rw [ho]
      exact q7.pre ((hH.tr s34.h).tr s6.h) (pA.tr p5)
    · have ks0 := f0
      subst f0
      have hs4 : y.2.2.2.2.2.2.1 = 4 := so_1 (s := 4) f2 hso
      have hs0 : ¬ y.2.2.2.2.2.2.1 = 0 := by rw [hs4]; decide
      have hZ := hS y (List.mem_append_right _ List.mem_cons_self) hs4
      have kv := (w3.sz hs0).2.2
      refine kjZ_y rfl rfl 4 _ _ _ _ ty4 ?_
      refine (And.intro (ty4.k (by decide) rfl) (And.intro (Nat.le_of_ble_eq_true rfl) (And.intro (Or.inl ⟨(Nat.le_of_ble_eq_true rfl), (ty4.k (by decide) rfl)⟩) (And.intro (Nat.le_of_ble_eq_true rfl) (And.intro (Nat.le_of_ble_eq_true rfl) (kjY_mono ty4 (fun q_ u6 ty6 xu6 h_ => ?_) (kx_id ty4 w3 hB h3 _ rfl)))))))
      obtain ⟨k3, nm3, rfl, p4, p5, w6, s6⟩ := h_
      intro _ _
      have kv6 : (u6.2.2.2.1 y.1).1 = 11 := xu6.k ty4 kv (by decide)
      refine kjZ_y rfl rfl 1 _ _ _ _ ty6 ?_
      refine (And.intro (Nat.le_of_ble_eq_true rfl) (And.intro (Or.inl ⟨(Nat.le_of_ble_eq_true rfl), (ty6.k (by decide) rfl)⟩) (And.intro (Nat.le_of_ble_eq_true rfl) (And.intro (Nat.le_of_ble_eq_true rfl) (kjY_mono ty6 (fun q_ u7 ty7 xu7 h_ => ?_) (kx_incr1 (d := d + 1) ty6 w6 hr (p5.get p2) p4 f2 f1 hs4 hZ false false false false false true ((s6 (75, 3) (by decide)).1.trans g75) ((s6 (53, 9) (by decide)).2.1.trans g9) hcl _ _ rfl rfl))))))
      have q7 := h_
      intro _ _
      obtain ⟨rfl, -⟩ := id q7
      refine kjZ_y rfl rfl 1 _ _ _ _ ty7 ?_
      refine And.intro rfl (And.intro rfl ?_)
      rw [ho]
      exact q7.pre ((hH.tr s34.h).tr s6.h) (pA.tr p5)
  exact go _ ty' rfl
end KZADD3
