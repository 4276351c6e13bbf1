/-! SINTERSTORE, SUNIONSTORE, SDIFFSTORE. -/
section KCOMB2
variable {Y : Nat → MethodName × ByteArray} {d : Nat} {σ0 σ u : kS} {B ws nm nm' : List (List Int32)} {ks : List KC}
def hsC (how : Nat) : Nat := if how = 0 then 72 else if how = 1 then 82 else 65
theorem k_store_l (K : kK) {P Q : List KC} {C : Nat} (hC : 3 * C ≤ 49000) {ms : List (List Int32)} (x1 : Nat) (hx1 : kCm x1) (x2 : Int32) (v0 : Nat) (y0 : KC)
    (hK : ∀ u x4, kTY u → KWd σ0 B u ws nm (P ++ y0 :: Q) → SCl scA σ u → kjY kPP (kQQ Y) (d + 6) 224 62 [some (.ref 71), some (.ref x1), some (.int x2), some (.ref v0), some (.int x4)] [] u K) :
    ∀ (f i : Nat) (x4 : Int32) (x : KC) (u : kS), i + f = ms.length → x4 = nI i → kTY u → KWd σ0 B u ws nm (P ++ x :: Q) → SCl scA σ u → PTT u nm ms → x.2.2.2.2.2.2.1 = 3 → wkO x → SP x.2.2.2.2.2.2.2.2.2.2 → x.1 = v0 → clA (skA (P ++ x :: Q)) + f ≤ C → mkK x (esF (fun es => ptA es (ms.drop i)) x.2.2.2.2.2) = y0 →
    kjY kPP (kQQ Y) (d + 6) 224 48 [some (.ref 71), some (.ref x1), some (.int x2), some (.ref v0), some (.int x4)] [] u K := by
  intro f
  induction f with
  | zero =>
    intro i x4 x u hi e4 tu wu su hp hso hwk hSP hx hcl hy
    obtain ⟨g, N, h1, h2, h3, h4, h5, h6, h7⟩ := hp
    have kv := (wu.sz (by rw [hso]; decide)).2.2
    rw [hx] at kv
    rw [List.drop_eq_nil_of_le (by omega)] at hy
    have hy : mkK x x.2.2.2.2.2 = y0 := hy
    refine kjZ_y rfl rfl 4 _ _ _ _ tu ?_
    refine (And.intro (tu.k (by decide) rfl) (And.intro (fun c => ?_) (fun c => ?_)))
    rotate_left
    · refine absurd (show u.1 71 5 ≤ x4 from ?_) c
      rw [h5, e4, nle (by omega) (by omega)]; omega
    refine hK u x4 tu ?_ su
    rw [← hy, mkK_self hwk]; exact wu
  | succ f ih =>
    intro i x4 x u hi e4 tu wu su hp hso hwk hSP hx hcl hy
    have hpo := hp
    obtain ⟨g, N, h1, h2, h3, h4, h5, h6, h7⟩ := hp
    have kv := (wu.sz (by rw [hso]; decide)).2.2
    have hil : i < ms.length := by omega
    have hd : ms.drop i = ms[i] :: ms.drop (i + 1) := List.drop_eq_getElem_cons hil
    have hv := List.getElem?_eq_getElem hil
    generalize ms[i] = v at hv hd
    subst hx
    obtain ⟨k, k1, k2⟩ := h7 i v hv
    have c4 : x4.toNatClampNeg = i := by rw [e4]; exact nI_clamp (by omega)
    have hpt : ptI x.2.2.2.2.2.2.1 = 1 := by rw [hso]; rfl
    have hlx : x.2.2.2.2.2.2.2.2.2.2.length ≤ clA (skA (P ++ x :: Q)) := by rw [clA_at, hpt]; omega
    refine kjZ_y rfl rfl 4 _ _ _ _ tu ?_
    refine (And.intro (tu.k (by decide) rfl) (And.intro (fun c => ?_) (fun c => ?_)))
    · refine absurd (show u.1 71 5 ≤ x4 from c) ?_
      rw [h5, e4, nle (by omega) (by omega)]; omega
    refine kjZ_y rfl rfl 7 _ _ _ _ tu ?_
    refine (And.intro (tu.k (by decide) rfl) (Exists.intro _ (And.intro h1 (Or.inl (And.intro (kdk h2) (And.intro (kdv h2 (by rw [e4]; exact vp_in_nI (by omega) (by omega))) (And.intro (Nat.le_of_ble_eq_true rfl) (And.intro (Or.inl ⟨(Nat.le_of_ble_eq_true rfl), (tu.k (by decide) rfl)⟩) (And.intro (Nat.le_of_ble_eq_true rfl) (And.intro (Nat.le_of_ble_eq_true rfl) (kjY_mono tu (fun q_ u2 ty2 xu2 h_ => ?_) (kx_addM2 tu wu hso hwk hSP k2 (by omega) _ (by rw [c4]; exact k1)))))))))))))
    obtain ⟨q, kb⟩ := h_
    intro _ _
    have hp2 := kb.2 _ _ hpo
    rw [hd] at hy
    obtain ⟨z, rfl, w2, s2⟩ : ∃ z : Int32, q_ = some (.int z) ∧ KWd σ0 B u2 ws nm (P ++ mkK x (esF (ptE v) x.2.2.2.2.2) :: Q) ∧ SCl scA u u2 := by
      rcases q with ⟨q5, q6, rfl⟩ | ⟨q5, q6, q7, q8⟩
      · refine ⟨_, q6, ?_, SCl.rf⟩
        have : mkK x (esF (ptE v) x.2.2.2.2.2) = x := by
          show mkK x (_, _, _, _, _, ptE v _) = _
          rw [ptE_yes q5]; exact mkK_self hwk
        rw [this]; exact wu
      · exact ⟨_, q6, q7, q8⟩
    have kv2 : (u2.2.2.2.1 x.1).1 = 11 := xu2.k tu kv (by decide)
    refine kjZ_y rfl rfl 3 _ _ _ _ ty2 ?_
    refine ih (i + 1) _ (mkK x (esF (ptE v) x.2.2.2.2.2)) u2 (by omega) (by rw [e4]; exact nI_1 i) ty2 w2 (su.tr s2) hp2 hso (wkO_mk _ _) (pt_SP hSP) rfl ?_ (by rw [← hy]; rfl)
    have hle := (ptE_tT v x.2.2.2.2.2.2.2.2.2.2).2
    rw [clA_at, hpt] at hcl
    rw [clA_at]
    show clA (skA P) + ptI x.2.2.2.2.2.2.1 * (ptE v x.2.2.2.2.2.2.2.2.2.2).length + _ + f ≤ C
    rw [hpt]; omega
set_option maxHeartbeats 1000000 in
theorem kx_cs24 (ty : kTY σ) (w : KWd σ0 B σ ws nm ks) (hr : RSD ks) (hB : BOK B ws) {how : Nat} (hh : how < 3) {v : List Int32} (hv : ws[1]? = some v) (hl2 : 3 ≤ ws.length) (hS : ∀ x ∈ ks, x.2.2.2.2.2.2.1 = 3 → SP x.2.2.2.2.2.2.2.2.2.2) (hso : ∀ i v, 2 ≤ i → ws[i]? = some v → ¬ soT (skA ks) v (nI 3) = false) (hl0 : (adL [] (esA (skA ks) (ws.getD 2 []))).length ≤ 8700) (hl1 : how = 1 → (poM how (skA ks) ws 2).length ≤ 8700) (hk1 : ks.length + 1 ≤ 2600) (hcl : 3 * (clA (skA ks) + (poM how (skA ks) ws 2).length) ≤ 49000) (x1 : Nat) (hx1 : kCm x1) {o : Option (List AK)} (ho : o = rrF (skA ks) v (poM how (skA ks) ws 2)) :
    kjY kPP (kQQ Y) (d + 7) 224 24 [some (.ref 71), some (.ref x1), none, none, none] [.ref (1000000 + hwC how), .ref 71] σ (cdP σ0 B σ ws nm ks o) := by
  have kj : kCm (1000000 + hwC how) := ⟨hwC how, by unfold hwC; split; decide; split <;> decide, rfl⟩
  have hsn : SN (poM how (skA ks) ws 2) := poL_SN _ _ (adL_SN _ _ List.Pairwise.nil)
  refine kjZ_y rfl rfl 2 _ _ _ _ ty ?_
  refine (And.intro (Nat.le_of_ble_eq_true rfl) (And.intro (Or.inl ⟨(Nat.le_of_ble_eq_true rfl), (ty.k (by decide) rfl)⟩) (And.intro (Nat.le_of_ble_eq_true rfl) (And.intro (Nat.le_of_ble_eq_true rfl) (kjY_mono ty (fun q_ u2 ty2 xu2 h_ => ?_) (kx_fill ty w hB hS hh (a := 2) (by omega) hso _ rfl hl0 hl1))))))
  obtain ⟨rfl, nm2, p2, w2, s2, t2⟩ := h_
  intro _ _
  refine kjZ_y rfl rfl 4 _ _ _ _ ty2 ?_
  refine (And.intro (ty2.k (by decide) rfl) (And.intro (Nat.le_of_ble_eq_true rfl) (And.intro (Or.inl ⟨(Nat.le_of_ble_eq_true rfl), (ty2.k (by decide) rfl)⟩) (And.intro (Nat.le_of_ble_eq_true rfl) (And.intro (Nat.le_of_ble_eq_true rfl) (kjY_mono ty2 (fun q_ u3 ty3 xu3 h_ => ?_) (kx_id2 ty2 w2 hB hv _ rfl)))))))
  obtain ⟨⟨k, nm3, rfl, p4, p5, w3, s3⟩, t3⟩ := h_
  intro _ _
  have hpt := (t3 _ _ t2).mono p5
  have sA := s2.tr s3
  have pA := p2.tr p5
  generalize poM how (skA ks) ws 2 = ms at hpt hcl ho hsn
  have hpto := hpt
  obtain ⟨g, N, h1, h2, h3, h4, h5, h6, h7⟩ := hpt
  -- the answer
  have s67 : ∀ (z : kS) (nm' : List (List Int32)) (ks' : List KC) (l3 l4 : Option Value), kTY z → KWd σ0 B z ws nm' ks' → (∀ z2, KWd σ0 B z2 ws nm' ks' → SCl scA z z2 → cdP σ0 B σ ws nm ks o none z2) → kjY kPP (kQQ Y) (d + 7) 224 67 [some (.ref 71), some (.ref x1), some (.int (nI k)), l3, l4] [] z (cdP σ0 B σ ws nm ks o) := by
    intro z nm' ks' l3 l4 tz wz hz
    obtain ⟨b, hb, eb⟩ := wz.2.2.2.2.2.2.1
    have kb := ob_k tz (ANn_b b (ANb_n b hb)).1
    refine kjZ_y rfl rfl 7 _ _ _ _ tz ?_
    refine (And.intro (tz.k (by decide) rfl) (And.intro (tz.k (by decide) rfl) (Exists.intro _ (And.intro eb (And.intro (tz.k (by decide) rfl) (And.intro (Nat.le_of_ble_eq_true rfl) (And.intro (Or.inl ⟨(Nat.le_of_ble_eq_true rfl), (by assumption)⟩) (And.intro (Nat.le_of_ble_eq_true rfl) (And.intro (Nat.le_of_ble_eq_true rfl) (kjY_mono tz (fun q_ u5 ty5 xu5 h_ => ?_) (kx_number tz wz hb _)))))))))))
    obtain ⟨rfl, w5, s5⟩ := h_
    intro _ _
    refine kjZ_y rfl rfl 1 _ _ _ _ ty5 ?_
    refine And.intro rfl (And.intro rfl ?_)
    exact hz u5 w5 s5
  refine kjZ_y rfl rfl 4 _ _ _ _ ty3 ?_
  refine (And.intro (Nat.le_of_ble_eq_true rfl) (And.intro (ty3.k (by decide) rfl) (And.intro (fun c => ?_) (fun c => ?_))))
  rotate_left
  · -- nothing comes
    have c : u3.1 71 5 = 0 := Decidable.of_not_not (fun z => c z)
    have hm0 : ms = [] := List.length_eq_zero_iff.mp ((nI_eq (b := 0) (by omega) (by decide)).mp (h5.symm.trans c))
    have ho : o = (match kyI (skA ks) v with | none => none | some p => some (rmA (skA ks) p)) := by rw [ho]; unfold rrF; rw [if_pos hm0]; cases kyI (skA ks) v <;> rfl
    refine kjZ_y rfl rfl 4 _ _ _ _ ty3 ?_
    refine (And.intro (ty3.k (by decide) rfl) (And.intro (Nat.le_of_ble_eq_true rfl) (And.intro (Or.inl ⟨(Nat.le_of_ble_eq_true rfl), (ty3.k (by decide) rfl)⟩) (And.intro (Nat.le_of_ble_eq_true rfl) (And.intro (Nat.le_of_ble_eq_true rfl) (kjY_mono ty3 (fun q_ u4 ty4 xu4 h_ => ?_) (kx_remove ty3 w3 p4 _ rfl)))))))
    obtain ⟨s4, q4⟩ := h_
    intro _ _
    rcases q4 with ⟨rfl, g1, g2, g3⟩ | ⟨rfl, P, y, Q, g1, g2, g3, g4⟩
    · refine kjZ_y rfl rfl 2 _ _ _ _ ty4 ?_
      exact s67 u4 _ _ _ _ ty4 g2 (fun z2 wz sz => cd_no pA wz hr ((sA.tr g3).tr sz).h (by rw [ho, g1]))
    · refine kjZ_y rfl rfl 2 _ _ _ _ ty4 ?_
      refine s67 u4 _ _ _ _ ty4 g3 (fun z2 wz sz => cd_ok pA wz (by rw [g1] at hr; exact hr.two.1) rfl ((sz (59, 18) (by decide)).1.trans g4) ((sA.g.tr (s4.sub scGE)).tr sz.g) ?_)
      rw [ho, g2, g1]
      show some (rmA (skA (P ++ y :: Q)) P.length) = _
      rw [skA_app, skA_cons, ← skA_len P, rmA_at, skA_app]
  -- a set comes
  have c : ¬ u3.1 71 5 = 0 := c
  have hm0 : ¬ ms = [] := fun z => c (by rw [h5, z]; rfl)
  have ho : o = some (upA (orA (skA ks) v 3).1 (orA (skA ks) v 3).2 (fun a => (a.1, 3, 0, 0, [], rsE ms))) := by rw [ho]; unfold rrF; rw [if_neg hm0]
  have hrs : ptA [] ms = rsE ms := ptA_rs ms [] hsn
  refine kjZ_y rfl rfl 5 _ _ _ _ ty3 ?_
  refine (And.intro (ty3.k (by decide) rfl) (And.intro (Nat.le_of_ble_eq_true rfl) (And.intro (Or.inl ⟨(Nat.le_of_ble_eq_true rfl), (ty3.k (by decide) rfl)⟩) (And.intro (Nat.le_of_ble_eq_true rfl) (And.intro (Nat.le_of_ble_eq_true rfl) (kjY_mono ty3 (fun q_ u4 ty4 xu4 h_ => ?_) (kx_fresh3 ty3 w3 p4 (s := 3) (by decide) (fun _ => hk1) _ _ rfl rfl)))))))
  obtain ⟨⟨P, x, Q, rfl, w4, s4, g1, g2, g3, g4⟩, kb4⟩ := h_
  intro _ _
  have hpt4 := kb4.2 _ _ hpto
  have hs3 : x.2.2.2.2.2.2.1 = 3 := by rw [g2]; rfl
  have hs0 : ¬ x.2.2.2.2.2.2.1 = 0 := by rw [hs3]; decide
  have kv4 := (w4.sz hs0).2.2
  have hwk : wkO x := by unfold wkO; rw [g1, g2]; rfl
  have hrr : RSD (P ++ Q) := by
    rcases g4 with ⟨y, g5, -⟩ | ⟨g5, -⟩
    · rw [g5] at hr; exact hr.two.1
    · rw [← g5]; exact hr
  have hclx : clA (skA (P ++ x :: Q)) ≤ clA (skA ks) := by
    rcases g4 with ⟨y, g5, -⟩ | ⟨g5, -⟩
    · rw [g5, clA_at, clA_at, g2]; show _ + _ * 0 + _ ≤ _; omega
    · rw [clA_at, g5, clA_app, g2]; show _ + _ * 0 + _ ≤ _; omega
  have hfin : upA (orA (skA ks) v 3).1 (orA (skA ks) v 3).2 (fun a => (a.1, 3, 0, 0, [], rsE ms)) = skA (P ++ mkK x (esF (fun es => ptA es ms) x.2.2.2.2.2) :: Q) := by
    have ex : (mkK x (esF (fun es => ptA es ms) x.2.2.2.2.2)).2.2.2.2.2 = (v, 3, 0, 0, [], rsE ms) := by
      show esF (fun es => ptA es ms) x.2.2.2.2.2 = _
      rw [g2, ← hrs]; rfl
    rcases g4 with ⟨y, g5, g6, g7, -⟩ | ⟨g5, g6, g7, -⟩
    · rw [orA_some g7, g5]
      show upA (skA (P ++ y :: Q)) P.length _ = _
      rw [skA_app, skA_app, skA_cons, skA_cons, ← skA_len P, upA_at, ex, g6]
    · rw [orA_none g6, ← g7, g5, skA_app]
      unfold inA
      have el : P.length = (skA P).length := (skA_len P).symm
      rw [el, List.take_left, List.drop_left, upA_at, skA_app, skA_cons, ex]
  have hne : ¬ emB (mkK x (esF (fun es => ptA es ms) x.2.2.2.2.2)) := fun z => hm0 (ptA_ne ms x.2.2.2.2.2.2.2.2.2.2 z.2).2
  refine kjZ_y rfl rfl 3 _ _ _ _ ty4 ?_
  refine (And.intro (Nat.le_of_ble_eq_true rfl) (And.intro (Nat.le_of_ble_eq_true rfl) ?_))
  refine k_store_l (σ := u4) (d := d + 1) _ (C := clA (skA ks) + ms.length) (by omega) (ms := ms) x1 hx1 (nI k) x.1 _ (fun u x4 tu wu su => ?_) ms.length 0 _ x u4 (Nat.zero_add _) rfl ty4 w4 SCl.rf hpt4 hs3 hwk (by rw [g2]; exact List.Pairwise.nil) rfl (by omega) rfl
  have kvu : (u.2.2.2.1 x.1).1 = 11 := (wu.sz (x := mkK x (esF (fun es => ptA es (ms.drop 0)) x.2.2.2.2.2)) hs0).2.2
  refine kjZ_y rfl rfl 5 _ _ _ _ tu ?_
  refine (And.intro (tu.k (by decide) rfl) (And.intro (Nat.le_of_ble_eq_true rfl) (And.intro (Or.inl ⟨(Nat.le_of_ble_eq_true rfl), (tu.k (by decide) rfl)⟩) (And.intro (Nat.le_of_ble_eq_true rfl) (And.intro (Nat.le_of_ble_eq_true rfl) (kjY_mono tu (fun q_ u5 ty5 xu5 h_ => ?_) (kx_settle (x := mkK x (esF (fun es => ptA es (ms.drop 0)) x.2.2.2.2.2)) tu wu (k := k) (by show nm3[k]? = some x.2.2.2.2.2.1; rw [g2]; exact p4) _ rfl)))))))
  obtain ⟨q9, q9b⟩ := h_
  intro _ _
  obtain ⟨rfl, nmA, ksA, pA5, wA, rA, eA, cA, sA5⟩ := cd_se (σ := σ) pA ((sA.tr (s4.tr su)).g) ⟨q9, q9b⟩ (wkO_mk _ _) hrr (fun z => absurd z hne) (fun _ => rfl)
  exact s67 u5 _ _ _ _ ty5 wA (fun z2 wz sz => cd_ok pA5 wz rA eA ((sz (59, 18) (by decide)).1.trans cA) (sA5.tr sz.g) (by rw [ho, hfin]; rfl))
theorem kx_combStore (ty : kTY σ) (w : KWd σ0 B σ ws nm ks) (hr : RSD ks) (hB : BOK B ws) {how : Nat} (hh : how < 3) (hj : CMD σ (hsC how)) {v : List Int32} (hv : ws[1]? = some v) (hl2 : 3 ≤ ws.length) (hS : ∀ x ∈ ks, x.2.2.2.2.2.2.1 = 3 → SP x.2.2.2.2.2.2.2.2.2.2) (hk1 : ks.length + 1 ≤ 2600) (hl : (∀ i v, 2 ≤ i → ws[i]? = some v → ¬ soT (skA ks) v (nI 3) = false) → (adL [] (esA (skA ks) (ws.getD 2 []))).length ≤ 8700 ∧ (how = 1 → (poM how (skA ks) ws 2).length ≤ 8700) ∧ 3 * (clA (skA ks) + (poM how (skA ks) ws 2).length) ≤ 49000) {o : Option (List AK)} (ho2 : (fuB (σ.1 59 17) ks (hsC how) ∨ ∃ i v, 2 ≤ i ∧ ws[i]? = some v ∧ soT (skA ks) v (nI 3) = false) → o = none) (ho3 : ¬ (fuB (σ.1 59 17) ks (hsC how) ∨ ∃ i v, 2 ≤ i ∧ ws[i]? = some v ∧ soT (skA ks) v (nI 3) = false) → o = rrF (skA ks) v (poM how (skA ks) ws 2)) :
    kjY kPP (kQQ Y) (d + 7) 224 0 (mjL0 5 [.ref 71, .ref (1000000 + hsC how)]) [] σ (cdP σ0 B σ ws nm ks o) := by
  have kj : kCm (1000000 + hsC how) := ⟨hsC how, hj.2, rfl⟩
  obtain ⟨-, -, -, -, ⟨h4, h1024⟩, -⟩ := w.2.2.2.1
  refine kjZ_y rfl rfl 10 _ _ _ _ ty ?_
  refine (And.intro (ty.k (by decide) rfl) (And.intro (ty.k (by decide) rfl) (And.intro (ty.k (by decide) rfl) (And.intro (Nat.le_of_ble_eq_true rfl) (And.intro (Or.inl ⟨(Nat.le_of_ble_eq_true rfl), (ty.k (by decide) rfl)⟩) (And.intro (Nat.le_of_ble_eq_true rfl) (And.intro (Nat.le_of_ble_eq_true rfl) (kjY_mono ty (fun q_ u1 ty1 xu1 h_ => ?_) (kx_refuses ty w hB hj (a := 2) (b := ws.length - 1) (by omega) (by omega) (s := 3) (by decide) _ _ _ rfl (show σ.1 53 4 - Int32.ofInt 1 = _ by rw [h4, show (Int32.ofInt 1) = nI 1 from rfl, pk_sub (by omega)]) rfl)))))))))
  obtain ⟨nm1, p1, w1, s1, q⟩ := h_
  intro _ _
  have hq : (fullB σ (hsC how) ∨ ∃ i v, 2 ≤ i ∧ i ≤ ws.length - 1 ∧ ws[i]? = some v ∧ soT (skA ks) v (nI 3) = false) ↔ (fuB (σ.1 59 17) ks (hsC how) ∨ ∃ i v, 2 ≤ i ∧ ws[i]? = some v ∧ soT (skA ks) v (nI 3) = false) := by
    unfold fullB fuB
    rw [w.mem]
    constructor
    · rintro (h | ⟨i, v, h1, -, h2, h3⟩)
      · exact Or.inl h
      · exact Or.inr ⟨i, v, h1, h2, h3⟩
    · rintro (h | ⟨i, v, h1, h2, h3⟩)
      · exact Or.inl h
      · exact Or.inr ⟨i, v, h1, by have := (List.getElem?_eq_some_iff.mp h2).1; omega, h2, h3⟩
  rw [hq] at q
  rcases q with ⟨rfl, q⟩ | ⟨rfl, q⟩
  · refine kjZ_y rfl rfl 1 _ _ _ _ ty1 ?_
    refine And.intro (fun c => ?_) (fun c => ?_)
    · exact absurd (show (1 : Int32) = 0 from c) (by decide)
    refine kjZ_y rfl rfl 1 _ _ _ _ ty1 ?_
    refine And.intro rfl (And.intro rfl ?_)
    exact cd_no p1 w1 hr s1.h (ho2 q)
  have ho := ho3 q
  have hso : ∀ i v, 2 ≤ i → ws[i]? = some v → ¬ soT (skA ks) v (nI 3) = false := fun i v h1 h2 z => q (Or.inr ⟨i, v, h1, h2, z⟩)
  obtain ⟨hl0, hl1, hcl⟩ := hl hso
  refine kjZ_y rfl rfl 1 _ _ _ _ ty1 ?_
  refine And.intro (fun c => ?_) (fun c => ?_)
  rotate_left
  · exact absurd rfl c
  have fin : ∀ n, n = hwC how → kjY kPP (kQQ Y) (d + 7) 224 24 [some (.ref 71), some (.ref (1000000 + hsC how)), none, none, none] [.ref (1000000 + n), .ref 71] u1 (cdP σ0 B σ ws nm ks o) := fun n e => by
    rw [e]
    exact kjY_mono ty1 (fun r z tz xz hz => hz.pre s1.h p1) (kx_cs24 (d := d) ty1 w1 hr hB hh hv hl2 hS hso hl0 hl1 hk1 hcl _ kj ho)
  have e0 : how = 0 ↔ 1000000 + hsC how = 1000072 := by
    unfold hsC; rcases (show how = 0 ∨ how = 1 ∨ how = 2 by omega) with h | h | h <;> subst h <;> decide
  have e1 : how = 1 ↔ 1000000 + hsC how = 1000082 := by
    unfold hsC; rcases (show how = 0 ∨ how = 1 ∨ how = 2 by omega) with h | h | h <;> subst h <;> decide
  refine kjZ_y rfl rfl 4 _ _ _ _ ty1 ?_
  refine And.intro ⟨(by assumption), ⟨72, by decide, rfl⟩, Or.inr rfl⟩ (And.intro (fun c2 => ?_) (fun c2 => ?_))
  rotate_left
  · have h0 : how = 0 := e0.mpr (Decidable.of_not_not (fun z => c2 (ac_ne.mpr z)))
    refine kjZ_y rfl rfl 2 _ _ _ _ ty1 ?_
    exact fin 71 (by rw [h0]; rfl)
  have h0 : ¬ how = 0 := fun z => ac_ne.mp c2 (e0.mp z)
  refine kjZ_y rfl rfl 3 _ _ _ _ ty1 ?_
  refine And.intro ⟨(by assumption), ⟨82, by decide, rfl⟩, Or.inr rfl⟩ (And.intro (fun c3 => ?_) (fun c3 => ?_))
  rotate_left
  · have h1 : how = 1 := e1.mpr (Decidable.of_not_not (fun z => c3 (ac_ne.mpr z)))
    refine kjZ_y rfl rfl 2 _ _ _ _ ty1 ?_
    exact fin 81 (by rw [h1]; rfl)
  have h1 : ¬ how = 1 := fun z => ac_ne.mp c3 (e1.mp z)
  refine kjZ_y rfl rfl 1 _ _ _ _ ty1 ?_
  exact fin 64 (by unfold hwC; rw [if_neg h0, if_neg h1])
end KCOMB2
