/-! SET, its front. -/
section KSET6
variable {Y : Nat → MethodName × ByteArray} {d : Nat} {σ0 σ u : kS} {B ws nm nm' : List (List Int32)} {ks : List KC}
theorem sgP.tr {σ1 : kS} {v a : List Int32} {f : F4} {tm : Int64} {r : Option Value} (s : SCl scU σ σ1) (hp : PRE nm nm') (h : sgP σ0 B σ1 ws nm' ks v a f tm r u) : sgP σ0 B σ ws nm ks v a f tm r u := by
  rcases h with ⟨h1, h2⟩ | ⟨h1, tt, h2, h3⟩
  · exact Or.inl ⟨h1, h2.tr s hp⟩
  · exact Or.inr ⟨h1, tt, h2.tr s hp, h3⟩
def szP (σ0 : kS) (B : List (List Int32)) (σ : kS) (ws nm : List (List Int32)) (ks : List KC) (v a : List Int32) (j : Nat) (f : F4) (tm : Int64) : kK := fun r u => (seZ (σ.1 59 17) ks j v f ∧ cdN σ0 B σ ws nm ks r u) ∨ ((¬ seZ (σ.1 59 17) ks j v f) ∧ sgP σ0 B σ ws nm ks v a f tm r u)
theorem kx_set53 (ty : kTY σ) (w : KWd σ0 B σ ws nm ks) (hr : RSD ks) (hB : BOK B ws) {j : Nat} (hj : CMD σ j) {v a : List Int32} (hv : ws[1]? = some v) (ha : ws[2]? = some a) (hal : a.length ≤ 16384) (hk1 : ks.length + 1 ≤ 2600) (hcap : xtA (skA ks) + 16384 ≤ 98304) {f : F4} {o : Option (Nat × List Int32)} (hO : OSI σ ws f o) (x1 x2 : Int32) {tm : Int64} (etm : σ.2.1 53 16 = tm) :
    kjY kPP (kQQ Y) (d + 8) 172 53 [some (.ref 67), some (.int x1), some (.int x2), none, none, none] [] σ (szP σ0 B σ ws nm ks v a j f tm) := by
  have hlen := (List.getElem?_eq_some_iff.mp ha).1
  refine kjZ_y rfl rfl 3 _ _ _ _ ty ?_
  refine (And.intro (ty.k (by decide) rfl) (And.intro (fun c => ?_) (fun c => ?_)))
  · have c : σ.1 67 4 = 0 := c
    have hg : f.2.2.1 = 0 := by
      rcases hO.2.1 with h | h
      · exact h.1
      · rw [h.2] at c; exact absurd c (by decide)
    have hZ : seZ (σ.1 59 17) ks j v f ↔ fuB (σ.1 59 17) ks j := ⟨fun z => z.elim (fun z => by rw [hg] at z; exact absurd z.1 (by decide)) (fun z => z.2), fun z => Or.inr ⟨hg, z⟩⟩
    refine kjZ_y rfl rfl 3 _ _ _ _ ty ?_
    refine (And.intro (ty.k (by decide) rfl) (And.intro (Nat.le_of_ble_eq_true rfl) (And.intro (Or.inl ⟨(Nat.le_of_ble_eq_true rfl), (ty.k (by decide) rfl)⟩) (And.intro (Nat.le_of_ble_eq_true rfl) (And.intro (Nat.le_of_ble_eq_true rfl) (kjY_mono ty (fun q_ u1 ty1 xu1 h_ => ?_) (kx_isFull ty w hj)))))))
    obtain ⟨s1, w1, q⟩ := h_
    intro _ _
    rw [fuB_iff w] at q
    rcases q with ⟨rfl, q⟩ | ⟨rfl, q, rfl⟩
    · refine kjZ_y rfl rfl 1 _ _ _ _ ty1 ?_
      refine And.intro (fun c2 => ?_) (fun c2 => ?_)
      · exact absurd (show (1 : Int32) = 0 from c2) (by decide)
      refine kjZ_y rfl rfl 1 _ _ _ _ ty1 ?_
      refine And.intro rfl (And.intro rfl ?_)
      exact Or.inl ⟨hZ.mpr q, cd_N PRE.rf w1 (s1.sub scUA)⟩
    · refine kjZ_y rfl rfl 1 _ _ _ _ ty1 ?_
      refine And.intro (fun c2 => ?_) (fun c2 => ?_)
      rotate_left
      · exact absurd rfl c2
      exact kjY_mono ty1 (fun r z _ _ hz => Or.inr ⟨fun y => q (hZ.mp y), hz⟩) (kx_set69 ty1 w hr hB hv ha hal hk1 hcap hO x1 x2 etm)
  · have c : ¬ σ.1 67 4 = 0 := c
    have hg : f.2.2.1 = 1 := by
      rcases hO.2.1 with h | h
      · exact absurd h.2 c
      · exact h.1
    have hZ : seZ (σ.1 59 17) ks j v f ↔ rfZ (σ.1 59 17) ks j v 0 := ⟨fun z => z.elim (fun z => z.2) (fun z => by rw [hg] at z; exact absurd z.1 (by decide)), fun z => Or.inl ⟨hg, z⟩⟩
    refine kjZ_y rfl rfl 6 _ _ _ _ ty ?_
    refine (And.intro (ty.k (by decide) rfl) (And.intro (Nat.le_of_ble_eq_true rfl) (And.intro (Or.inl ⟨(Nat.le_of_ble_eq_true rfl), (ty.k (by decide) rfl)⟩) (And.intro (Nat.le_of_ble_eq_true rfl) (And.intro (Nat.le_of_ble_eq_true rfl) (kjY_mono ty (fun q_ u1 ty1 xu1 h_ => ?_) (kx_refuses ty w hB hj (a := 1) (b := 1) (by omega) (by omega) (s := 0) (by decide) _ _ _ rfl rfl rfl)))))))
    obtain ⟨nm1, p1, w1, s1, q⟩ := h_
    intro _ _
    rw [rf1 w hv] at q
    rcases q with ⟨rfl, q⟩ | ⟨rfl, q⟩
    · refine kjZ_y rfl rfl 1 _ _ _ _ ty1 ?_
      refine And.intro (fun c2 => ?_) (fun c2 => ?_)
      · exact absurd (show (1 : Int32) = 0 from c2) (by decide)
      refine kjZ_y rfl rfl 2 _ _ _ _ ty1 ?_
      refine And.intro rfl (And.intro rfl ?_)
      exact Or.inl ⟨hZ.mpr q, cd_N p1 w1 (s1.sub scUA)⟩
    · refine kjZ_y rfl rfl 1 _ _ _ _ ty1 ?_
      refine And.intro (fun c2 => ?_) (fun c2 => ?_)
      rotate_left
      · exact absurd rfl c2
      exact kjY_mono ty1 (fun r z _ _ hz => Or.inr ⟨fun y => q (hZ.mp y), hz.tr (s1.sub scUA) p1⟩) (kx_set69 ty1 w1 hr hB hv ha hal hk1 hcap (hO.fr (s1.sub (by decide +kernel))) x1 x2 ((s1 (53, 16) (by decide)).2.1.trans etm))
theorem szP.tr {σ1 : kS} {v a : List Int32} {j : Nat} {f : F4} {tm : Int64} {r : Option Value} (s : SCl scU σ σ1) (h : szP σ0 B σ1 ws nm ks v a j f tm r u) : szP σ0 B σ ws nm ks v a j f tm r u := by
  unfold szP at h ⊢
  rw [(s (59, 17) (by decide)).1] at h
  exact h.elim (fun z => Or.inl ⟨z.1, z.2.tr s PRE.rf⟩) (fun z => Or.inr ⟨z.1, z.2.tr s PRE.rf⟩)
def setP (σ0 : kS) (B : List (List Int32)) (σ : kS) (ws nm : List (List Int32)) (ks : List KC) (v a : List Int32) (j : Nat) : kK := fun r u => (osR ws (σ.2.1 59 16) = none ∧ cdN σ0 B σ ws nm ks r u) ∨ ∃ f ot, osR ws (σ.2.1 59 16) = some (f, ot) ∧ szP σ0 B σ ws nm ks v a j f (ot.getD NEV) r u
theorem kx_set32 (ty : kTY σ) (w : KWd σ0 B σ ws nm ks) (hr : RSD ks) (hB : BOK B ws) {j : Nat} (hj : CMD σ j) {v a : List Int32} (hv : ws[1]? = some v) (ha : ws[2]? = some a) (hal : a.length ≤ 16384) (hk1 : ks.length + 1 ≤ 2600) (hcap : xtA (skA ks) + 16384 ≤ 98304) {f : F4} {o : Option (Nat × List Int32)} (hO : OSI σ ws f o) (hR : osF (ws.drop 3) (0, 0, 0, 0) none = some (f, o)) (S F : Bool) (hSF : ∀ m t, o = some (m, t) → tmM S F = m) (x1 x2 : Int32) (e1 : x1 = if S = true then 1 else 0) (e2 : x2 = if F = true then 1 else 0) :
    kjY kPP (kQQ Y) (d + 8) 172 32 [some (.ref 67), some (.int x1), some (.int x2), none, none, none] [] σ (setP σ0 B σ ws nm ks v a j) := by
  have eR : osR ws (σ.2.1 59 16) = osE (σ.2.1 59 16) f o := by unfold osR; rw [hR]; rfl
  have eV : Int64.ofInt 9223372036854775807 = NEV := by decide
  refine kjZ_y rfl rfl 4 _ _ _ _ ty ?_
  refine (And.intro (ty.k (by decide) rfl) (And.intro (ty.k (by decide) rfl) (And.intro rfl (fun ty' => ?_))))
  have go : ∀ z, kTY z → z = (σ.1, mjLu σ.2.1 53 16 (Int64.ofInt 9223372036854775807), σ.2.2) → kjY kPP (kQQ Y) (d + 8) 172 36 [some (.ref 67), some (.int x1), some (.int x2), none, none, none] [] z (setP σ0 B σ ws nm ks v a j) := by
    intro z tz ez
    have wz : KWd σ0 B z ws nm ks := by rw [ez]; exact w.pl ty (by decide)
    have sz : SCl scU σ z := by rw [ez]; exact SCl.l (by decide +kernel)
    have s67 : SCl [(67, 3), (67, 4), (67, 5), (67, 6)] σ z := by rw [ez]; exact SCl.l (by decide +kernel)
    have oz := hO.fr s67
    have ez16 : z.2.1 53 16 = NEV := by rw [ez]; show mjLu σ.2.1 53 16 (Int64.ofInt 9223372036854775807) 53 16 = NEV; rw [mjLu_p]; exact eV
    have hjz : CMD z j := ⟨(sz (53, 8) (by decide)).2.2.trans hj.1, hj.2⟩
    have hlen := (List.getElem?_eq_some_iff.mp ha).1
    obtain ⟨-, -, -, -, ⟨h4, h1024⟩, -⟩ := w.2.2.2.1
    by_cases hon : o = none
    · have e6 : z.1 67 6 = 0 := by
        rcases oz.2.2 with h | h | h
        · exact h.2.2.2
        · exact h.2.2.2
        · obtain ⟨-, m, t, k, h, -⟩ := h
          rw [hon] at h; cases h
      refine kjZ_y rfl rfl 3 _ _ _ _ tz ?_
      refine (And.intro (tz.k (by decide) rfl) (And.intro (fun c => ?_) (fun c => ?_)))
      rotate_left
      · exact absurd (show z.1 67 6 ≤ 0 by rw [e6]; exact Int32.le_refl _) c
      refine kjY_mono tz (fun r y _ _ hy => Or.inr ⟨f, none, by rw [eR, hon]; rfl, ?_⟩) (kx_set53 tz wz hr hB hjz hv ha hal hk1 hcap oz x1 x2 ez16)
      exact hy.tr sz
    · obtain ⟨m, t, i, ho, hm, h5, h6, hi1, hit⟩ : ∃ m t i, o = some (m, t) ∧ m < 4 ∧ z.1 67 5 = nI (m + 2) ∧ z.1 67 6 = nI i ∧ 1 ≤ i ∧ ws[i]? = some t := by
        rcases oz.2.2 with h | h | h
        · exact absurd h.2.1 hon
        · exact absurd h.2.1 hon
        · exact h.2
      have hil := (List.getElem?_eq_some_iff.mp hit).1
      have hM := hSF m t ho
      refine kjZ_y rfl rfl 3 _ _ _ _ tz ?_
      refine (And.intro (tz.k (by decide) rfl) (And.intro (fun c => ?_) (fun c => ?_)))
      · exact absurd (show z.1 67 6 ≤ nI 0 from c) (by rw [h6, nle (by omega) (by decide)]; omega)
      refine kjZ_y rfl rfl 5 _ _ _ _ tz ?_
      refine (And.intro (tz.k (by decide) rfl) (And.intro (tz.k (by decide) rfl) (And.intro (Nat.le_of_ble_eq_true rfl) (And.intro (Or.inl ⟨(Nat.le_of_ble_eq_true rfl), (tz.k (by decide) rfl)⟩) (And.intro (Nat.le_of_ble_eq_true rfl) (And.intro (Nat.le_of_ble_eq_true rfl) (kjY_mono tz (fun q_ u1 ty1 xu1 h_ => ?_) (kx_lacksInteger tz wz hit _ h6))))))))
      obtain ⟨w1, s1, q⟩ := h_
      intro _ _
      have sU1 := sz.tr (s1.sub scUB)
      have eR2 : osR ws (σ.2.1 59 16) = (match intF t with | none => none | some n => if n < 1 ∨ tmB n (σ.2.1 59 16) m = false then none else some (f, some (tmV n (σ.2.1 59 16) m))) := by rw [eR, ho]; rfl
      rcases q with ⟨n, q1, rfl, e9⟩ | ⟨q1, rfl⟩
      rotate_left
      · refine kjZ_y rfl rfl 1 _ _ _ _ ty1 ?_
        refine And.intro (fun c2 => ?_) (fun c2 => ?_)
        rotate_left
        · exact absurd (show ¬ (1 : Int32) = 0 by decide) c2
        refine kjZ_y rfl rfl 1 _ _ _ _ ty1 ?_
        refine And.intro rfl (And.intro rfl ?_)
        exact Or.inl ⟨by rw [eR2, q1], cd_N PRE.rf w1 sU1⟩
      rw [q1] at eR2
      have eR2 : osR ws (σ.2.1 59 16) = if n < 1 ∨ tmB n (σ.2.1 59 16) m = false then none else some (f, some (tmV n (σ.2.1 59 16) m)) := eR2
      refine kjZ_y rfl rfl 1 _ _ _ _ ty1 ?_
      refine And.intro (fun c2 => ?_) (fun c2 => ?_)
      · exact absurd rfl c2
      refine kjZ_y rfl rfl 6 _ _ _ _ ty1 ?_
      refine (And.intro (ty1.k (by decide) rfl) (And.intro (Nat.le_of_ble_eq_true rfl) (And.intro (Or.inl ⟨(Nat.le_of_ble_eq_true rfl), (ty1.k (by decide) rfl)⟩) (And.intro (Nat.le_of_ble_eq_true rfl) (And.intro (Nat.le_of_ble_eq_true rfl) (kjY_mono ty1 (fun q_ u2 ty2 xu2 h_ => ?_) (kx_lacksTime ty1 w1 S F _ _ _ e1 e2)))))))
      obtain ⟨w2, s2, q⟩ := h_
      intro _ _
      rw [e9, (sU1 (59, 16) (by decide)).2.1, hM] at q
      have hlt := ltC_1 n (σ.2.1 59 16) m
      have sU2 := sU1.tr (s2.sub scUT)
      rcases q with ⟨rfl, q2, e16⟩ | ⟨rfl, q2⟩
      rotate_left
      · have q2 : ¬ ltC n (σ.2.1 59 16) 1 m := q2
        rw [hlt, Classical.not_not] at q2
        refine kjZ_y rfl rfl 1 _ _ _ _ ty2 ?_
        refine And.intro (fun c3 => ?_) (fun c3 => ?_)
        · exact absurd (show (1 : Int32) = 0 from c3) (by decide)
        refine kjZ_y rfl rfl 1 _ _ _ _ ty2 ?_
        refine And.intro rfl (And.intro rfl ?_)
        exact Or.inl ⟨by rw [eR2, if_pos q2], cd_N PRE.rf w2 sU2⟩
      have q2 : ltC n (σ.2.1 59 16) 1 m := q2
      rw [hlt] at q2
      rw [if_neg q2] at eR2
      refine kjZ_y rfl rfl 1 _ _ _ _ ty2 ?_
      refine And.intro (fun c3 => ?_) (fun c3 => ?_)
      rotate_left
      · exact absurd rfl c3
      have oz2 := (oz.fr (s1.sub (by decide +kernel))).fr (u := u2) (s2.sub (by decide +kernel))
      have hj2 : CMD u2 j := ⟨(sU2 (53, 8) (by decide)).2.2.trans hj.1, hj.2⟩
      refine kjY_mono ty2 (fun r y _ _ hy => Or.inr ⟨f, _, eR2, ?_⟩) (kx_set53 ty2 w2 hr hB hj2 hv ha hal hk1 hcap oz2 x1 x2 e16)
      exact hy.tr sU2
  exact go _ ty' rfl
end KSET6
