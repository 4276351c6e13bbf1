/-! HSET, HSETNX. -/
theorem gv_SP {v : List Int32} {es : List AE} (h : SP es) (i : Nat) : SP (gvE i v es) := by
  have e : (gvE i v es).map (fun z => z.1) = es.map (fun z => z.1) := by
    clear h
    induction i generalizing es with
    | zero => cases es <;> rfl
    | succ i ih =>
      cases es with
      | nil => rfl
      | cons a r => show a.1 :: (gvE i v r).map (fun z => z.1) = a.1 :: r.map (fun z => z.1); rw [ih]
  have h1 : (es.map (fun z => z.1)).Pairwise (fun a b => cmpW a b < 0) := List.pairwise_map.mpr h
  rw [← e] at h1
  exact List.pairwise_map.mp h1
theorem hp_SP {f v : List Int32} {es : List AE} (h : SP es) : SP (hpE f v es) := gv_SP (pt_SP h) _
theorem hpE_len (f v : List Int32) (es : List AE) : (hpE f v es).length ≤ es.length + 1 ∧ 1 ≤ (hpE f v es).length := by
  by_cases c : skT f es = true
  · obtain ⟨z, h1, h2, h3⟩ := skT_at c
    rw [hpE_yes c, gvE_set _ _ z h1, List.length_set]; omega
  · rw [hpE_no c, insL_len]; omega
section KHSET
variable {Y : Nat → MethodName × ByteArray} {d : Nat} {σ0 σ u : kS} {B ws nm nm' : List (List Int32)} {ks : List KC}
theorem k_hset_l (K : kK) (hB : BOK B ws) {P Q : List KC} {C : Nat} (hC : 3 * C ≤ 49000) (x1 : Int32) (v0 : Nat) (y0 : KC)
    (hK : ∀ u nm' x3 x4, kTY u → PRE nm nm' → KWd σ0 B u ws nm' (P ++ y0 :: Q) → SCl scA σ u → kjY kPP (kQQ Y) (d + 6) 210 47 [some (.ref 71), some (.int x1), some (.ref v0), some (.int x3), some (.int x4)] [] u K) :
    ∀ (f j : Nat) (x3 x4 : Int32) (nm' : List (List Int32)) (x : KC) (u : kS), j + 2 * f = ws.length → x4 = nI j → kTY u → PRE nm nm' → KWd σ0 B u ws nm' (P ++ x :: Q) → SCl scA σ u → x.2.2.2.2.2.2.1 = 2 → wkO x → SP x.2.2.2.2.2.2.2.2.2.2 → x.1 = v0 → clA (skA (P ++ x :: Q)) + 2 * f ≤ C → mkK x (esF (fun es => hpA es (ws.drop j)) x.2.2.2.2.2) = y0 →
    kjY kPP (kQQ Y) (d + 6) 210 23 [some (.ref 71), some (.int x1), some (.ref v0), some (.int x3), some (.int x4)] [] u K := by
  intro f
  induction f with
  | zero =>
    intro j x3 x4 nm' x u hj e4 tu hp wu su hso hwk hSP hx hcl hy
    obtain ⟨g, M, -, -, ⟨h4, h1024⟩, -⟩ := wu.2.2.2.1
    obtain ⟨z1, z2, kv⟩ := wu.sz (by rw [hso]; decide)
    rw [hx] at kv
    rw [List.drop_eq_nil_of_le (by omega)] at hy
    have hy : mkK x x.2.2.2.2.2 = y0 := hy
    refine kjZ_y rfl rfl 7 _ _ _ _ tu ?_
    refine (And.intro (tu.k (by decide) rfl) (And.intro (tu.k (by decide) rfl) (And.intro (fun c1 => ?_) (fun c1 => ?_))))
    rotate_left
    · refine absurd (show u.1 53 4 ≤ x4 + Int32.ofInt 1 from ?_) c1
      rw [h4, e4, show nI j + Int32.ofInt 1 = nI (j + 1) from nI_1 j, nle (by omega) (by omega)]; omega
    refine hK u nm' x3 x4 tu hp ?_ su
    rw [← hy, mkK_self hwk]; exact wu
  | succ f ih =>
    intro j x3 x4 nm' x u hj e4 tu hp wu su hso hwk hSP hx hcl hy
    obtain ⟨g, M, -, -, ⟨h4, h1024⟩, -⟩ := wu.2.2.2.1
    obtain ⟨z1, z2, kv⟩ := wu.sz (by rw [hso]; decide)
    have hjl : j + 1 < ws.length := by omega
    have hd : ws.drop j = ws[j] :: ws[j + 1] :: ws.drop (j + 2) := by
      rw [List.drop_eq_getElem_cons (by omega), List.drop_eq_getElem_cons hjl]
    subst hx
    refine kjZ_y rfl rfl 7 _ _ _ _ tu ?_
    refine (And.intro (tu.k (by decide) rfl) (And.intro (tu.k (by decide) rfl) (And.intro (fun c1 => ?_) (fun c1 => ?_))))
    · refine absurd (show u.1 53 4 ≤ x4 + Int32.ofInt 1 from c1) ?_
      rw [h4, e4, show nI j + Int32.ofInt 1 = nI (j + 1) from nI_1 j, nle (by omega) (by omega)]; omega
    have hv := List.getElem?_eq_getElem (show j < ws.length by omega)
    have hv2 := List.getElem?_eq_getElem hjl
    generalize ws[j] = v at hv hd
    generalize ws[j + 1] = v2 at hv2 hd
    refine kjZ_y rfl rfl 6 _ _ _ _ tu ?_
    refine (And.intro (tu.k (by decide) rfl) (And.intro (Nat.le_of_ble_eq_true rfl) (And.intro (Or.inl ⟨(Nat.le_of_ble_eq_true rfl), (tu.k (by decide) rfl)⟩) (And.intro (Nat.le_of_ble_eq_true rfl) (And.intro (Nat.le_of_ble_eq_true rfl) (kjY_mono tu (fun q_ u1 ty1 xu1 h_ => ?_) (kx_id tu wu hB hv _ e4)))))))
    obtain ⟨k, nm2, rfl, p2, p3, w1, s1⟩ := h_
    intro _ _
    have kv1 : (u1.2.2.2.1 x.1).1 = 11 := xu1.k tu kv (by decide)
    refine kjZ_y rfl rfl 6 _ _ _ _ ty1 ?_
    refine (And.intro (ty1.k (by decide) rfl) (And.intro (Nat.le_of_ble_eq_true rfl) (And.intro (Or.inl ⟨(Nat.le_of_ble_eq_true rfl), (ty1.k (by decide) rfl)⟩) (And.intro (Nat.le_of_ble_eq_true rfl) (And.intro (Nat.le_of_ble_eq_true rfl) (kjY_mono ty1 (fun q_ u2 ty2 xu2 h_ => ?_) (kx_id ty1 w1 hB hv2 _ (by rw [e4]; exact nI_1 j))))))))
    obtain ⟨k2, nm3, rfl, p4, p5, w2, s2⟩ := h_
    intro _ _
    have kv2 : (u2.2.2.2.1 x.1).1 = 11 := xu2.k ty1 kv1 (by decide)
    have hpt : ptI x.2.2.2.2.2.2.1 = 2 := by rw [hso]; rfl
    have hlx : 2 * x.2.2.2.2.2.2.2.2.2.2.length ≤ clA (skA (P ++ x :: Q)) := by rw [clA_at, hpt]; omega
    refine kjZ_y rfl rfl 1 _ _ _ _ ty2 ?_
    refine (And.intro (Nat.le_of_ble_eq_true rfl) (And.intro (Or.inl ⟨(Nat.le_of_ble_eq_true rfl), (ty2.k (by decide) rfl)⟩) (And.intro (Nat.le_of_ble_eq_true rfl) (And.intro (Nat.le_of_ble_eq_true rfl) (kjY_mono ty2 (fun q_ u3 ty3 xu3 h_ => ?_) (kx_setF ty2 w2 hso hwk hSP (p5.get p2) p4 (by omega) _ _ rfl rfl))))))
    obtain ⟨⟨z, rfl⟩, w3, s3⟩ := h_
    intro _ _
    have kv3 : (u3.2.2.2.1 x.1).1 = 11 := xu3.k ty2 kv2 (by decide)
    rw [hd] at hy
    have nx : ∀ x3, kjY kPP (kQQ Y) (d + 6) 210 45 [some (.ref 71), some (.int x1), some (.ref x.1), some (.int x3), some (.int x4)] [] u3 K := by
      intro x3
      refine kjZ_y rfl rfl 2 _ _ _ _ ty3 ?_
      refine ih (j + 2) x3 _ nm3 (mkK x (esF (hpE v v2) x.2.2.2.2.2)) u3 (by omega) (by rw [e4]; exact nI_add j 2) ty3 ((hp.tr p3).tr p5) w3 ((su.tr s1).tr (s2.tr s3)) hso (wkO_mk _ _) (hp_SP hSP) rfl ?_ ?_
      · have hle := (hpE_len v v2 x.2.2.2.2.2.2.2.2.2.2).1
        rw [clA_at, hpt] at hcl
        rw [clA_at]
        show clA (skA P) + ptI x.2.2.2.2.2.2.1 * (hpE v v2 x.2.2.2.2.2.2.2.2.2.2).length + _ + 2 * f ≤ C
        rw [hpt]; omega
      · rw [← hy]; rfl
    refine kjZ_y rfl rfl 1 _ _ _ _ ty3 ?_
    refine And.intro (fun c2 => ?_) (fun c2 => ?_)
    · exact nx _
    refine kjZ_y rfl rfl 1 _ _ _ _ ty3 ?_
    exact nx _
theorem hpA_ne : ∀ (n : Nat) (vs : List (List Int32)) (es : List AE), vs.length ≤ n → (es ≠ [] ∨ 2 ≤ vs.length) → hpA es vs ≠ [] := by
  intro n
  induction n with
  | zero =>
    intro vs es h h2
    have : vs = [] := List.length_eq_zero_iff.mp (by omega)
    subst this
    rcases h2 with h2 | h2
    · exact h2
    · exact absurd h2 (by simp)
  | succ n ih =>
    intro vs es h h2
    cases vs with
    | nil => exact h2.elim id (fun z => absurd z (by simp))
    | cons f r =>
      cases r with
      | nil => exact h2.elim id (fun z => absurd z (by simp))
      | cons v r =>
        show hpA (hpE f v es) r ≠ []
        refine ih r _ (by rw [List.length_cons, List.length_cons] at h; omega) (Or.inl (fun z => ?_))
        have := (hpE_len f v es).2
        rw [z] at this; exact absurd this (by simp)
/-- what a key is, found or made -/
theorem om_w (hr : RSD ks) {P Q : List KC} {x : KC} {v : List Int32} {s : Nat} (hs4 : s ≤ 4) (hso : ¬ soT (skA ks) v (nI s) = false) (w3 : KWd σ0 B u ws nm (P ++ x :: Q)) (g1 : x.2.2.2.2.2.1 = v) (g2 : (ks = P ++ x :: Q ∧ kyI (skA ks) v = some P.length) ∨ (ks = P ++ Q ∧ kyI (skA ks) v = none ∧ P.length = plF (anm (skA ks)) v ∧ x.2.2.2.1 = 0 ∧ x.2.2.2.2.1 = 0 ∧ x.2.2.2.2.2 = (v, nI s, 0, 0, [], []))) : x.2.2.2.2.2.2.1 = nI s ∧ (RSD (P ++ Q) ∧ wkO x) ∧ clA (skA (P ++ x :: Q)) ≤ clA (skA ks) ∧ kyI (skA (P ++ x :: Q)) v = some P.length ∧ orA (skA ks) v (nI s) = (skA (P ++ x :: Q), P.length) ∧ (x.2.2.2.2.2.2.2.2.2.2 = [] ∨ x ∈ ks) := by
  have hky : kyI (skA (P ++ x :: Q)) v = some P.length := by rw [← g1]; exact ky_k w3.srt
  rcases g2 with ⟨rfl, f2⟩ | ⟨g3, g4, g5, g6, -, g⟩
  · exact ⟨so_1 (s := s) f2 hso, ⟨hr.two.1, hr.two.2.1⟩, Nat.le_refl _, hky, orA_some hky, Or.inr (List.mem_append_right _ List.mem_cons_self)⟩
  · refine ⟨by rw [g], ⟨by rw [← g3]; exact hr, ?_⟩, ?_, hky, ?_, Or.inl (by rw [g])⟩
    · unfold wkO; rw [g6, g]
      show 0 = nI (wtC (v, nI s, 0, 0, [], []))
      unfold wtC
      by_cases c : nI s = 0
      · show 0 = nI (if nI s = 0 then 0 else 0); rw [if_pos c]; rfl
      · show 0 = nI (if nI s = 0 then 0 else 0); rw [if_neg c]; rfl
    · rw [clA_at, g3, clA_app, g]; show _ + _ * 0 + _ ≤ _; omega
    · rw [orA_none g4, ← g5, g3, skA_app]
      unfold inA
      have el : P.length = (skA P).length := (skA_len P).symm
      rw [el, List.take_left, List.drop_left, skA_app, skA_cons, g]
theorem kx_hset (ty : kTY σ) (w : KWd σ0 B σ ws nm ks) (hr : RSD ks) (hB : BOK B ws) {j : Nat} (hj : CMD σ j) {v : List Int32} (hv : ws[1]? = some v) {n : Nat} (hl2 : ws.length = 2 + 2 * (n + 1)) (hS : ∀ x ∈ ks, x.2.2.2.2.2.2.1 = 2 → SP x.2.2.2.2.2.2.2.2.2.2) (hk1 : ks.length + 1 ≤ 2600) (hcl : 3 * (clA (skA ks) + ws.length) ≤ 49000) (f : List Int32) (mb : Bool) {o : Option (List AK)} (ho2 : rfZ (σ.1 59 17) ks j v 2 → o = none) (ho3 : ¬ rfZ (σ.1 59 17) ks j v 2 → o = hsF (skA ks) v 52 (ws.drop 2) f mb) :
    kjY kPP (kQQ Y) (d + 7) 210 0 (mjL0 5 [.ref 71]) [] σ (cdP σ0 B σ ws nm ks o) := by
  have hlen := (List.getElem?_eq_some_iff.mp hv).1
  refine kjZ_y rfl rfl 6 _ _ _ _ ty ?_
  refine (And.intro (ty.k (by decide) rfl) (And.intro (Nat.le_of_ble_eq_true rfl) (And.intro (Or.inl ⟨(Nat.le_of_ble_eq_true rfl), (ty.k (by decide) rfl)⟩) (And.intro (Nat.le_of_ble_eq_true rfl) (And.intro (Nat.le_of_ble_eq_true rfl) (kjY_mono ty (fun q_ u1 ty1 xu1 h_ => ?_) (kx_refuses ty w hB hj (a := 1) (b := 1) (by omega) (by omega) (s := 2) (by decide) _ _ _ rfl rfl rfl)))))))
  obtain ⟨nm1, p1, w1, s1, q⟩ := h_
  intro _ _
  rw [rf1 w hv] at q
  rcases q with ⟨rfl, q⟩ | ⟨rfl, q⟩
  · refine kjZ_y rfl rfl 1 _ _ _ _ ty1 ?_
    refine And.intro (fun c => ?_) (fun c => ?_)
    · exact absurd (show (1 : Int32) = 0 from c) (by decide)
    refine kjZ_y rfl rfl 1 _ _ _ _ ty1 ?_
    refine And.intro rfl (And.intro rfl ?_)
    exact cd_no p1 w1 hr s1.h (ho2 q)
  have ho := ho3 q
  have hso := fun z => q (Or.inr z)
  refine kjZ_y rfl rfl 1 _ _ _ _ ty1 ?_
  refine And.intro (fun c => ?_) (fun c => ?_)
  rotate_left
  · exact absurd rfl c
  refine kjZ_y rfl rfl 4 _ _ _ _ ty1 ?_
  refine (And.intro (ty1.k (by decide) rfl) (And.intro (Nat.le_of_ble_eq_true rfl) (And.intro (Or.inl ⟨(Nat.le_of_ble_eq_true rfl), (ty1.k (by decide) rfl)⟩) (And.intro (Nat.le_of_ble_eq_true rfl) (And.intro (Nat.le_of_ble_eq_true rfl) (kjY_mono ty1 (fun q_ u2 ty2 xu2 h_ => ?_) (kx_id ty1 w1 hB hv _ rfl)))))))
  obtain ⟨k, nm2, rfl, p2, p3, w2, s2⟩ := h_
  intro _ _
  refine kjZ_y rfl rfl 6 _ _ _ _ ty2 ?_
  refine (And.intro (Nat.le_of_ble_eq_true rfl) (And.intro (ty2.k (by decide) rfl) (And.intro (Nat.le_of_ble_eq_true rfl) (And.intro (Or.inl ⟨(Nat.le_of_ble_eq_true rfl), (ty2.k (by decide) rfl)⟩) (And.intro (Nat.le_of_ble_eq_true rfl) (And.intro (Nat.le_of_ble_eq_true rfl) (kjY_mono ty2 (fun q_ u3 ty3 xu3 h_ => ?_) (kx_orMake ty2 w2 p2 (s := 2) (by decide) (fun _ => hk1) _ _ rfl rfl))))))))
  obtain ⟨P, x, Q, rfl, w3, s3, g1, g2⟩ := h_
  intro _ _
  have sA := (s1.tr s2).tr s3
  have pA := p1.tr p3
  obtain ⟨hs2, hrs, hclx, hky, hor, hxe⟩ := om_w (s := 2) hr (by decide) hso w3 g1 g2
  have hs2 : x.2.2.2.2.2.2.1 = 2 := hs2
  have hs0 : ¬ x.2.2.2.2.2.2.1 = 0 := by rw [hs2]; decide
  have hSP : SP x.2.2.2.2.2.2.2.2.2.2 := hxe.elim (fun z => by rw [z]; exact List.Pairwise.nil) (fun z => hS x z hs2)
  have kv3 := (w3.sz hs0).2.2
  have hor : orA (skA ks) v 2 = (skA (P ++ x :: Q), P.length) := hor
  have ho : o = some (skA (P ++ mkK x (esF (fun es => hpA es (ws.drop 2)) x.2.2.2.2.2) :: Q)) := by
    rw [ho]; unfold hsF
    rw [if_neg (fun z => absurd z.1 (by decide)), hor]
    show some (upA (skA (P ++ x :: Q)) P.length _) = _
    rw [skA_app, skA_app, skA_cons, skA_cons, ← skA_len P, upA_at]; rfl
  refine kjZ_y rfl rfl 5 _ _ _ _ ty3 ?_
  refine (And.intro (Nat.le_of_ble_eq_true rfl) (And.intro (Nat.le_of_ble_eq_true rfl) (And.intro (Nat.le_of_ble_eq_true rfl) ?_)))
  refine k_hset_l (σ := u3) (d := d + 1) _ hB (C := clA (skA ks) + ws.length) (by omega) (nI k) x.1 _ (fun u nm' x3 x4 tu hp wu su => ?_) (n + 1) 2 _ _ nm2 x u3 (by omega) rfl ty3 PRE.rf w3 SCl.rf hs2 hrs.2 hSP rfl (by omega) rfl
  have kvu : (u.2.2.2.1 x.1).1 = 11 := (wu.sz (x := mkK x (esF (fun es => hpA es (ws.drop 2)) x.2.2.2.2.2)) hs0).2.2
  have hne : ¬ emB (mkK x (esF (fun es => hpA es (ws.drop 2)) x.2.2.2.2.2)) := fun z => hpA_ne _ (ws.drop 2) x.2.2.2.2.2.2.2.2.2.2 (Nat.le_refl _) (Or.inr (by rw [List.length_drop]; omega)) z.2
  refine kjZ_y rfl rfl 5 _ _ _ _ tu ?_
  refine (And.intro (tu.k (by decide) rfl) (And.intro (Nat.le_of_ble_eq_true rfl) (And.intro (Or.inl ⟨(Nat.le_of_ble_eq_true rfl), (tu.k (by decide) rfl)⟩) (And.intro (Nat.le_of_ble_eq_true rfl) (And.intro (Nat.le_of_ble_eq_true rfl) (kjY_mono tu (fun q_ u5 ty5 xu5 h_ => ?_) (kx_settle (x := mkK x (esF (fun es => hpA es (ws.drop 2)) x.2.2.2.2.2)) tu wu (k := k) (by show nm'[k]? = some x.2.2.2.2.2.1; rw [g1]; exact hp.get p2) _ rfl)))))))
  obtain ⟨q9, q9b⟩ := h_
  intro _ _
  obtain ⟨rfl, nmA, ksA, pA5, wA, rA, eA, cA, sA5⟩ := cd_se (σ := σ) (pA.tr hp) ((sA.tr su).g) ⟨q9, q9b⟩ (wkO_mk _ _) hrs.1 (fun z => absurd z hne) (fun _ => rfl)
  obtain ⟨b, hb, eb⟩ := wA.2.2.2.2.2.2.1
  have kb := ob_k ty5 (ANn_b b (ANb_n b hb)).1
  refine kjZ_y rfl rfl 6 _ _ _ _ ty5 ?_
  refine (And.intro (ty5.k (by decide) rfl) (And.intro (ty5.k (by decide) rfl) (Exists.intro _ (And.intro eb (And.intro (Nat.le_of_ble_eq_true rfl) (And.intro (Or.inl ⟨(Nat.le_of_ble_eq_true rfl), (by assumption)⟩) (And.intro (Nat.le_of_ble_eq_true rfl) (And.intro (Nat.le_of_ble_eq_true rfl) (kjY_mono ty5 (fun q_ u6 ty6 xu6 h_ => ?_) (kx_number ty5 wA hb _))))))))))
  obtain ⟨rfl, w6, s6⟩ := h_
  intro _ _
  refine kjZ_y rfl rfl 1 _ _ _ _ ty6 ?_
  refine And.intro rfl (And.intro rfl ?_)
  exact cd_ok pA5 w6 rA eA ((s6 (59, 18) (by decide)).1.trans cA) (sA5.tr s6.g) ho
theorem mbT_k {P Q : List KC} {y : KC} {v f : List Int32} (f2 : kyI (skA (P ++ y :: Q)) v = some P.length) : mbT (skA (P ++ y :: Q)) v f = skT f y.2.2.2.2.2.2.2.2.2.2 := by
  unfold mbT; rw [f2]
  show (match (skA (P ++ y :: Q))[P.length]? with | some a => _ | none => _) = _
  rw [skA_at]
theorem kx_hsetnx (ty : kTY σ) (w : KWd σ0 B σ ws nm ks) (hr : RSD ks) (hB : BOK B ws) {j : Nat} (hj : CMD σ j) {v f v3 : List Int32} (hv : ws[1]? = some v) (h2 : ws[2]? = some f) (h3 : ws[3]? = some v3) (hl2 : ws.length = 4) (hS : ∀ x ∈ ks, x.2.2.2.2.2.2.1 = 2 → SP x.2.2.2.2.2.2.2.2.2.2) (hk1 : ks.length + 1 ≤ 2600) (hcl : 3 * (clA (skA ks) + ws.length) ≤ 49000) {o : Option (List AK)} (ho2 : rfZ (σ.1 59 17) ks j v 2 → o = none) (ho3 : ¬ rfZ (σ.1 59 17) ks j v 2 → o = hsF (skA ks) v 53 (ws.drop 2) f (mbT (skA ks) v f)) :
    kjY kPP (kQQ Y) (d + 7) 211 0 (mjL0 4 [.ref 71]) [] σ (cdP σ0 B σ ws nm ks o) := by
  have hlen := (List.getElem?_eq_some_iff.mp hv).1
  refine kjZ_y rfl rfl 6 _ _ _ _ ty ?_
  refine (And.intro (ty.k (by decide) rfl) (And.intro (Nat.le_of_ble_eq_true rfl) (And.intro (Or.inl ⟨(Nat.le_of_ble_eq_true rfl), (ty.k (by decide) rfl)⟩) (And.intro (Nat.le_of_ble_eq_true rfl) (And.intro (Nat.le_of_ble_eq_true rfl) (kjY_mono ty (fun q_ u1 ty1 xu1 h_ => ?_) (kx_refuses ty w hB hj (a := 1) (b := 1) (by omega) (by omega) (s := 2) (by decide) _ _ _ rfl rfl rfl)))))))
  obtain ⟨nm1, p1, w1, s1, q⟩ := h_
  intro _ _
  rw [rf1 w hv] at q
  rcases q with ⟨rfl, q⟩ | ⟨rfl, q⟩
  · refine kjZ_y rfl rfl 1 _ _ _ _ ty1 ?_
    refine And.intro (fun c => ?_) (fun c => ?_)
    · exact absurd (show (1 : Int32) = 0 from c) (by decide)
    refine kjZ_y rfl rfl 1 _ _ _ _ ty1 ?_
    refine And.intro rfl (And.intro rfl ?_)
    exact cd_no p1 w1 hr s1.h (ho2 q)
  have ho := ho3 q
  have hso := fun z => q (Or.inr z)
  refine kjZ_y rfl rfl 1 _ _ _ _ ty1 ?_
  refine And.intro (fun c => ?_) (fun c => ?_)
  rotate_left
  · exact absurd rfl c
  refine kjZ_y rfl rfl 4 _ _ _ _ ty1 ?_
  refine (And.intro (ty1.k (by decide) rfl) (And.intro (Nat.le_of_ble_eq_true rfl) (And.intro (Or.inl ⟨(Nat.le_of_ble_eq_true rfl), (ty1.k (by decide) rfl)⟩) (And.intro (Nat.le_of_ble_eq_true rfl) (And.intro (Nat.le_of_ble_eq_true rfl) (kjY_mono ty1 (fun q_ u2 ty2 xu2 h_ => ?_) (kx_id ty1 w1 hB hv _ rfl)))))))
  obtain ⟨k, nm2, rfl, p2, p3, w2, s2⟩ := h_
  intro _ _
  refine kjZ_y rfl rfl 5 _ _ _ _ ty2 ?_
  refine (And.intro (Nat.le_of_ble_eq_true rfl) (And.intro (ty2.k (by decide) rfl) (And.intro (Nat.le_of_ble_eq_true rfl) (And.intro (Or.inl ⟨(Nat.le_of_ble_eq_true rfl), (ty2.k (by decide) rfl)⟩) (And.intro (Nat.le_of_ble_eq_true rfl) (And.intro (Nat.le_of_ble_eq_true rfl) (kjY_mono ty2 (fun q_ u3 ty3 xu3 h_ => ?_) (kx_id ty2 w2 hB h2 _ rfl))))))))
  obtain ⟨kf, nm3, rfl, p4, p5, w3, s3⟩ := h_
  intro _ _
  have p2' := p5.get p2
  have sA := (s1.tr s2).tr s3
  have pA := (p1.tr p3).tr p5
  refine kjZ_y rfl rfl 7 _ _ _ _ ty3 ?_
  refine (And.intro (Nat.le_of_ble_eq_true rfl) (And.intro (ty3.k (by decide) rfl) (And.intro (ty3.k (by decide) rfl) (And.intro (Nat.le_of_ble_eq_true rfl) (And.intro (Or.inl ⟨(Nat.le_of_ble_eq_true rfl), (ty3.k (by decide) rfl)⟩) (And.intro (Nat.le_of_ble_eq_true rfl) (And.intro (Nat.le_of_ble_eq_true rfl) (kjY_mono ty3 (fun q_ u4 ty4 xu4 h_ => ?_) (kx_find ty3 w3 p2' _ rfl)))))))))
  obtain ⟨rfl, q3⟩ := h_
  intro _ _
  -- not there
  have go33 : mbT (skA ks) v f = false → kjY kPP (kQQ Y) (d + 7) 211 33 [some (.ref 71), some (.int (nI k)), some (.int (nI kf)), none] [] u4 (cdP σ0 B σ ws nm ks o) := by
    intro hmb
    refine kjZ_y rfl rfl 5 _ _ _ _ ty4 ?_
    refine (And.intro (ty4.k (by decide) rfl) (And.intro (Nat.le_of_ble_eq_true rfl) (And.intro (Or.inl ⟨(Nat.le_of_ble_eq_true rfl), (ty4.k (by decide) rfl)⟩) (And.intro (Nat.le_of_ble_eq_true rfl) (And.intro (Nat.le_of_ble_eq_true rfl) (kjY_mono ty4 (fun q_ u5 ty5 xu5 h_ => ?_) (kx_orMake ty4 w3 p2' (s := 2) (by decide) (fun _ => hk1) _ _ rfl rfl)))))))
    obtain ⟨P, x, Q, rfl, w5, s5, g1, g2⟩ := h_
    intro _ _
    obtain ⟨hs2, hrs, hclx, hky, hor, hxe⟩ := om_w (s := 2) hr (by decide) hso w5 g1 g2
    have hs2 : x.2.2.2.2.2.2.1 = 2 := hs2
    have hs0 : ¬ x.2.2.2.2.2.2.1 = 0 := by rw [hs2]; decide
    have hSP : SP x.2.2.2.2.2.2.2.2.2.2 := hxe.elim (fun z => by rw [z]; exact List.Pairwise.nil) (fun z => hS x z hs2)
    have kv5 := (w5.sz hs0).2.2
    have hor : orA (skA ks) v 2 = (skA (P ++ x :: Q), P.length) := hor
    have hpt : ptI x.2.2.2.2.2.2.1 = 2 := by rw [hs2]; rfl
    have hlx : 2 * x.2.2.2.2.2.2.2.2.2.2.length ≤ clA (skA (P ++ x :: Q)) := by rw [clA_at, hpt]; omega
    refine kjZ_y rfl rfl 8 _ _ _ _ ty5 ?_
    refine (And.intro (Nat.le_of_ble_eq_true rfl) (And.intro (ty5.k (by decide) rfl) (And.intro (Nat.le_of_ble_eq_true rfl) (And.intro (Or.inl ⟨(Nat.le_of_ble_eq_true rfl), (ty5.k (by decide) rfl)⟩) (And.intro (Nat.le_of_ble_eq_true rfl) (And.intro (Nat.le_of_ble_eq_true rfl) (kjY_mono ty5 (fun q_ u6 ty6 xu6 h_ => ?_) (kx_id ty5 w5 hB h3 _ rfl))))))))
    obtain ⟨k3, nm4, rfl, p6, p7, w6, s6⟩ := h_
    intro _ _
    have kv6 : (u6.2.2.2.1 x.1).1 = 11 := xu6.k ty5 kv5 (by decide)
    refine kjZ_y rfl rfl 1 _ _ _ _ ty6 ?_
    refine (And.intro (Nat.le_of_ble_eq_true rfl) (And.intro (Or.inl ⟨(Nat.le_of_ble_eq_true rfl), (ty6.k (by decide) rfl)⟩) (And.intro (Nat.le_of_ble_eq_true rfl) (And.intro (Nat.le_of_ble_eq_true rfl) (kjY_mono ty6 (fun q_ u7 ty7 xu7 h_ => ?_) (kx_setF ty6 w6 hs2 hrs.2 hSP (p7.get p4) p6 (by omega) _ _ rfl rfl))))))
    obtain ⟨⟨z, rfl⟩, w7, s7⟩ := h_
    intro _ _
    have kv7 : (u7.2.2.2.1 x.1).1 = 11 := xu7.k ty6 kv6 (by decide)
    have hne : ¬ emB (mkK x (esF (hpE f v3) x.2.2.2.2.2)) := fun z => by
      have := (hpE_len f v3 x.2.2.2.2.2.2.2.2.2.2).2
      have z2 : hpE f v3 x.2.2.2.2.2.2.2.2.2.2 = [] := z.2
      rw [z2] at this; exact absurd this (by simp)
    refine kjZ_y rfl rfl 6 _ _ _ _ ty7 ?_
    refine (And.intro (ty7.k (by decide) rfl) (And.intro (Nat.le_of_ble_eq_true rfl) (And.intro (Or.inl ⟨(Nat.le_of_ble_eq_true rfl), (ty7.k (by decide) rfl)⟩) (And.intro (Nat.le_of_ble_eq_true rfl) (And.intro (Nat.le_of_ble_eq_true rfl) (kjY_mono ty7 (fun q_ u8 ty8 xu8 h_ => ?_) (kx_settle (x := mkK x (esF (hpE f v3) x.2.2.2.2.2)) ty7 w7 (k := k) (by show nm4[k]? = some x.2.2.2.2.2.1; rw [g1]; exact p7.get p2') _ rfl)))))))
    obtain ⟨q9, q9b⟩ := h_
    intro _ _
    obtain ⟨rfl, nmA, ksA, pA5, wA, rA, eA, cA, sA5⟩ := cd_se (σ := σ) (pA.tr p7) (((sA.tr s5).tr (s6.tr s7)).g) ⟨q9, q9b⟩ (wkO_mk _ _) hrs.1 (fun z => absurd z hne) (fun _ => rfl)
    obtain ⟨b, hb, eb⟩ := wA.2.2.2.2.2.2.1
    have kb := ob_k ty8 (ANn_b b (ANb_n b hb)).1
    refine kjZ_y rfl rfl 5 _ _ _ _ ty8 ?_
    refine (And.intro (ty8.k (by decide) rfl) (And.intro (ty8.k (by decide) rfl) (Exists.intro _ (And.intro eb (And.intro (Nat.le_of_ble_eq_true rfl) (And.intro (Or.inl ⟨(Nat.le_of_ble_eq_true rfl), (by assumption)⟩) (And.intro (Nat.le_of_ble_eq_true rfl) (And.intro (Nat.le_of_ble_eq_true rfl) (kjY_mono ty8 (fun q_ u9 ty9 xu9 h_ => ?_) (kx_number ty8 wA hb _))))))))))
    obtain ⟨rfl, w9, s9⟩ := h_
    intro _ _
    refine kjZ_y rfl rfl 1 _ _ _ _ ty9 ?_
    refine And.intro rfl (And.intro rfl ?_)
    refine cd_ok pA5 w9 rA eA ((s9 (59, 18) (by decide)).1.trans cA) (sA5.tr s9.g) ?_
    rw [ho]; unfold hsF
    rw [if_neg (fun z => by rw [hmb] at z; exact absurd z.2 Bool.false_ne_true), hor]
    have hd : ws.drop 2 = [f, v3] := by
      rw [List.drop_eq_getElem_cons (by omega), List.drop_eq_getElem_cons (by omega), List.drop_eq_nil_of_le (by omega)]
      rw [List.getElem?_eq_getElem (by omega)] at h2 h3
      rw [Option.some.inj h2, Option.some.inj h3]
    rw [hd]
    show some (upA (skA (P ++ x :: Q)) P.length _) = _
    rw [skA_app, skA_app, skA_cons, skA_cons, ← skA_len P, upA_at]; rfl
  rcases q3 with ⟨rfl, q3⟩ | ⟨P, y, Q, rfl, f0, f1, f2⟩
  · refine kjZ_y rfl rfl 2 _ _ _ _ ty4 ?_
    refine (And.intro (Nat.le_of_ble_eq_true rfl) (And.intro (Or.inl ⟨(Nat.le_of_ble_eq_true rfl), (ty4.k (by decide) rfl)⟩) (And.intro (Nat.le_of_ble_eq_true rfl) (And.intro (Nat.le_of_ble_eq_true rfl) (kjY_mono ty4 (fun q_ u5 ty5 xu5 h_ => ?_) (kx_placeOf0 ty4 _))))))
    obtain ⟨rfl, rfl⟩ := h_
    intro _ _
    refine kjZ_y rfl rfl 1 _ _ _ _ ty5 ?_
    refine And.intro (fun c2 => ?_) (fun c2 => ?_)
    · exact go33 (by unfold mbT; rw [q3])
    · exact absurd (show (-1 : Int32) < 0 by decide) c2
  · have ks0 := f0
    subst f0
    have hs2 : y.2.2.2.2.2.2.1 = 2 := so_1 (s := 2) f2 hso
    have hs0 : ¬ y.2.2.2.2.2.2.1 = 0 := by rw [hs2]; decide
    obtain ⟨z1, z2, kv⟩ := w3.sz hs0
    have hSP := hS y (List.mem_append_right _ List.mem_cons_self) hs2
    have hsl9 := skR_lt (v := f) (es := y.2.2.2.2.2.2.2.2.2.2) (by omega)
    refine kjZ_y rfl rfl 2 _ _ _ _ ty4 ?_
    refine (And.intro (Nat.le_of_ble_eq_true rfl) (And.intro (Or.inl ⟨(Nat.le_of_ble_eq_true rfl), (ty4.k (by decide) rfl)⟩) (And.intro (Nat.le_of_ble_eq_true rfl) (And.intro (Nat.le_of_ble_eq_true rfl) (kjY_mono ty4 (fun q_ u5 ty5 xu5 h_ => ?_) (kx_plM ty4 w3 (Or.inl hs2) hSP p4 _ rfl))))))
    obtain ⟨rfl, rfl⟩ := h_
    intro _ _
    refine kjZ_y rfl rfl 1 _ _ _ _ ty5 ?_
    refine And.intro (fun c2 => ?_) (fun c2 => ?_)
    · have hno := hsl9.1.mp c2
      exact go33 (by rw [mbT_k f2]; exact Bool.eq_false_iff.mpr hno)
    · have hyes : skT f y.2.2.2.2.2.2.2.2.2.2 = true := Decidable.byContradiction fun z => c2 (hsl9.1.mpr z)
      obtain ⟨b, hb, eb⟩ := w3.2.2.2.2.2.2.1
      have kb := ob_k ty5 (ANn_b b (ANb_n b hb)).1
      refine kjZ_y rfl rfl 5 _ _ _ _ ty5 ?_
      refine (And.intro (ty5.k (by decide) rfl) (And.intro (ty5.k (by decide) rfl) (Exists.intro _ (And.intro eb (And.intro (Nat.le_of_ble_eq_true rfl) (And.intro (Or.inl ⟨(Nat.le_of_ble_eq_true rfl), (by assumption)⟩) (And.intro (Nat.le_of_ble_eq_true rfl) (And.intro (Nat.le_of_ble_eq_true rfl) (kjY_mono ty5 (fun q_ u6 ty6 xu6 h_ => ?_) (kx_number ty5 w3 hb _))))))))))
      obtain ⟨rfl, w6, s6⟩ := h_
      intro _ _
      refine kjZ_y rfl rfl 1 _ _ _ _ ty6 ?_
      refine And.intro rfl (And.intro rfl ?_)
      refine cd_no pA w6 hr (sA.tr s6).h ?_
      rw [ho]; unfold hsF
      rw [mbT_k f2, hyes, if_pos ⟨rfl, rfl⟩]
end KHSET
