/-! SINTER, SUNION, SDIFF and their stores. -/
theorem ptE_end {v : List Int32} {es : List AE} (h : ∀ z ∈ es, cmpW z.1 v < 0) : skI v es = es.length ∧ ptE v es = es ++ [(v, [], 0)] := by
  have e : skI v es = es.length := by
    induction es with
    | nil => rfl
    | cons a r ih =>
      have : skI v (a :: r) = skI v r + 1 := if_pos (h a List.mem_cons_self)
      rw [this, ih (fun z hz => h z (List.mem_cons_of_mem _ hz))]; rfl
  refine ⟨e, ?_⟩
  have hn : ¬ skT v es = true := by unfold skT; rw [e, List.getElem?_eq_none (Nat.le_refl _)]; exact Bool.false_ne_true
  rw [ptE_no hn, e, insL_l]
theorem ptA_rs : ∀ (r pre : List (List Int32)), SN (pre ++ r) → ptA (rsE pre) r = rsE (pre ++ r) := by
  intro r
  induction r with
  | nil => intro pre _; rw [List.append_nil]; rfl
  | cons v r ih =>
    intro pre h
    have hlt : ∀ z ∈ rsE pre, cmpW z.1 v < 0 := fun z hz => by
      obtain ⟨m, hm, rfl⟩ := List.mem_map.mp hz
      exact (List.pairwise_append.mp h).2.2 m hm v List.mem_cons_self
    show ptA (ptE v (rsE pre)) r = _
    rw [(ptE_end hlt).2]
    have e : rsE pre ++ [(v, [], 0)] = rsE (pre ++ [v]) := by unfold rsE; rw [List.map_append]; rfl
    rw [e, ih (pre ++ [v]) (by rw [List.append_assoc]; exact h), List.append_assoc]; rfl
section KCOMB
variable {Y : Nat → MethodName × ByteArray} {d : Nat} {σ0 σ u : kS} {B ws nm nm' : List (List Int32)} {ks : List KC}
theorem kx_copyWord2 (ty : kTY σ) (w : KWd σ0 B σ ws nm ks) {b : Nat} (hb : b ∈ ANb) (x : Int32) : kjY kPP (kQQ Y) (d + 5) 80 0 (mjL0 3 [.ref 48, .int x, .ref b]) [] σ (fun r u => wP σ0 B σ ws nm ks r u ∧ ∀ nm ms, PTT σ nm ms → PTT u nm ms) := by
  have hbn := ANb_n b hb
  have kb := ob_k ty (ANn_b b hbn).1
  obtain ⟨l, hl⟩ := w.2.2.2.2.2.1 b hbn
  have hw := w.2.2.1.1
  by_cases z : ∃ i v, x = nI i ∧ nm[i]? = some v
  · obtain ⟨i, v, e1, e2⟩ := z
    refine kjY_mono ty (fun _ _ _ _ q => ⟨w.op ty hbn q, fun nm ms h => ?_⟩) (k_copyWord ty w.2.1.1 hw (ANn_b b hbn).1 hl e2 x e1 (opQ_an hbn w.2.1.2 l))
    obtain ⟨-, h2, -⟩ := q
    have q4 := (ANn_b b hbn).2.2.2.1
    exact h.fr ty w.2.1.1 h2 (fun p hp e => q4 (by
      have f1 : ∀ p ∈ [(b, 1), (b, 2), (b, 3)], p.1 = b := by simp
      rw [← f1 p hp]; exact e)) (fun p hp => by rw [List.mem_singleton.mp hp]; exact ⟨ow_b (ANn_b b hbn).1, q4⟩)
  · obtain ⟨rb, NB, rs, NS, rc, ⟨b1, b2, b3, b3'⟩, ⟨s1, s2, s3, s4, s5, s5'⟩, a1, a2, -⟩ := hw
    have fin : kjY kPP (kQQ Y) (d + 5) 80 25 [some (.ref 48), some (.int x), some (.ref b)] [] σ (fun r u => wP σ0 B σ ws nm ks r u ∧ ∀ nm ms, PTT σ nm ms → PTT u nm ms) := by
      refine kjZ_y rfl rfl 1 _ _ _ _ ty ?_
      refine And.intro rfl (And.intro rfl ?_)
      exact ⟨⟨rfl, w, SCl.rf⟩, fun _ _ h => h⟩
    refine kjZ_y rfl rfl 2 _ _ _ _ ty ?_
    refine And.intro (fun c => ?_) (fun c => ?_)
    · exact fin
    refine kjZ_y rfl rfl 4 _ _ _ _ ty ?_
    refine (And.intro (ty.k (by decide) rfl) (And.intro (fun c2 => ?_) (fun c2 => ?_)))
    · exact fin
    obtain ⟨i, ei, hi⟩ := nat_of (n := nm.length) (by omega) c (by have y := Int32.not_le.mp (show ¬ σ.1 48 4 ≤ x from c2); rw [a2] at y; exact y)
    exact absurd ⟨i, _, ei, List.getElem?_eq_getElem hi⟩ z
/-- a head keeps the pot -/
theorem kx_rowHead2 (ty : kTY σ) (w : KWd σ0 B σ ws nm ks) {b : Nat} (hb : b ∈ ANb) (x : Int32) : kjY kPP (kQQ Y) (d + 5) 60 0 (mjL0 2 [.ref b, .int x]) [] σ (fun r u => wP σ0 B σ ws nm ks r u ∧ ∀ nm ms, PTT σ nm ms → PTT u nm ms) := by
  have hbn := ANb_n b hb
  have kb := ob_k ty (ANn_b b hbn).1
  obtain ⟨l, hl⟩ := w.2.2.2.2.2.1 b hbn
  refine kjZ_y rfl rfl 5 _ _ _ _ ty ?_
  refine (And.intro (Nat.le_of_ble_eq_true rfl) (And.intro (Or.inl ⟨(Nat.le_of_ble_eq_true rfl), (by assumption)⟩) (And.intro (Nat.le_of_ble_eq_true rfl) (And.intro (Nat.le_of_ble_eq_true rfl) (kjY_mono ty (fun q_ u1 ty1 xu1 h_ => ?_) (k_head ty w.2.1.1 (ANn_b b hbn).1 hl _ _ (opQ_an hbn w.2.1.2 l)))))))
  have q := h_
  intro _ _
  have hz := w.op ty hbn q
  obtain ⟨-, h2, -⟩ := q
  obtain ⟨rfl, w1, s1⟩ := hz
  have q4 := (ANn_b b hbn).2.2.2.1
  refine kjZ_y rfl rfl 1 _ _ _ _ ty1 ?_
  refine And.intro rfl (And.intro rfl ?_)
  refine ⟨⟨rfl, w1, s1⟩, fun nm ms h => ?_⟩
  exact h.fr ty w.2.1.1 h2 (fun p hp e => q4 (by
      have f1 : ∀ p ∈ [(b, 1), (b, 2), (b, 3)], p.1 = b := by simp
      rw [← f1 p hp]; exact e)) (fun p hp => by rw [List.mem_singleton.mp hp]; exact ⟨ow_b (ANn_b b hbn).1, q4⟩)
theorem k_comb_l {ms : List (List Int32)} (j : Nat) (hj : j < 105) :
    ∀ (f i : Nat) (x2 : Int32) (u : kS), i + f = ms.length → x2 = nI i → kTY u → KWd σ0 B u ws nm ks → SCl scA σ u → PTT u nm ms →
    kjY kPP (kQQ Y) (d + 6) 223 24 [some (.ref 71), some (.ref (1000000 + j)), some (.int x2)] [] u (wP σ0 B σ ws nm ks) := by
  have kj : kCm (1000000 + j) := ⟨j, hj, rfl⟩
  intro f
  induction f with
  | zero =>
    intro i x2 u hi e2 tu wu su hp
    obtain ⟨g, N, h1, h2, h3, h4, h5, h6, h7⟩ := hp
    refine kjZ_y rfl rfl 4 _ _ _ _ tu ?_
    refine (And.intro (tu.k (by decide) rfl) (And.intro (fun c => ?_) (fun c => ?_)))
    rotate_left
    · refine absurd (show u.1 71 5 ≤ x2 from ?_) c
      rw [h5, e2, nle (by omega) (by omega)]; omega
    refine kjZ_y rfl rfl 1 _ _ _ _ tu ?_
    refine And.intro rfl (And.intro rfl ?_)
    exact ⟨rfl, wu, su⟩
  | succ f ih =>
    intro i x2 u hi e2 tu wu su hp
    have hpo := hp
    obtain ⟨g, N, h1, h2, h3, h4, h5, h6, h7⟩ := hp
    obtain ⟨b, hb, eb⟩ := wu.2.2.2.2.2.2.1
    have kb := ob_k tu (ANn_b b (ANb_n b hb)).1
    refine kjZ_y rfl rfl 4 _ _ _ _ tu ?_
    refine (And.intro (tu.k (by decide) rfl) (And.intro (fun c => ?_) (fun c => ?_)))
    · refine absurd (show u.1 71 5 ≤ x2 from c) ?_
      rw [h5, e2, nle (by omega) (by omega)]; omega
    refine kjZ_y rfl rfl 10 _ _ _ _ tu ?_
    refine (And.intro (tu.k (by decide) rfl) (And.intro (tu.k (by decide) rfl) (Exists.intro _ (And.intro h1 (Or.inl (And.intro (kdk h2) (And.intro (kdv h2 (by rw [e2]; exact vp_in_nI (by omega) (by omega))) (And.intro (tu.k (by decide) rfl) (And.intro (tu.k (by decide) rfl) (Exists.intro _ (And.intro eb (And.intro (Nat.le_of_ble_eq_true rfl) (And.intro (Or.inl ⟨(Nat.le_of_ble_eq_true rfl), (tu.k (by decide) rfl)⟩) (And.intro (Nat.le_of_ble_eq_true rfl) (And.intro (Nat.le_of_ble_eq_true rfl) (kjY_mono tu (fun q_ u1 ty1 xu1 h_ => ?_) (kx_copyWord2 tu wu hb _)))))))))))))))))
    obtain ⟨⟨rfl, w1, s1⟩, t1⟩ := h_
    intro _ _
    refine kjZ_y rfl rfl 2 _ _ _ _ ty1 ?_
    exact ih (i + 1) _ u1 (by omega) (by rw [e2]; exact nI_1 i) ty1 w1 (su.tr s1) (t1 _ _ hpo)
theorem kx_combine (ty : kTY σ) (w : KWd σ0 B σ ws nm ks) (hr : RSD ks) (hB : BOK B ws) {how : Nat} (hh : how < 3) (hj : CMD σ (hwC how)) (hl2 : 2 ≤ ws.length) (hS : ∀ x ∈ ks, x.2.2.2.2.2.2.1 = 3 → SP x.2.2.2.2.2.2.2.2.2.2) (hl : (∀ i v, 1 ≤ i → ws[i]? = some v → ¬ soT (skA ks) v (nI 3) = false) → (adL [] (esA (skA ks) (ws.getD 1 []))).length ≤ 8700 ∧ (how = 1 → (poM how (skA ks) ws 1).length ≤ 8700)) :
    kjY kPP (kQQ Y) (d + 7) 223 0 (mjL0 3 [.ref 71, .ref (1000000 + hwC how)]) [] σ (cdP σ0 B σ ws nm ks none) := by
  have kj : kCm (1000000 + hwC how) := ⟨hwC how, hj.2, rfl⟩
  obtain ⟨-, -, -, -, ⟨h4, h1024⟩, -⟩ := w.2.2.2.1
  refine kjZ_y rfl rfl 10 _ _ _ _ ty ?_
  refine (And.intro (ty.k (by decide) rfl) (And.intro (ty.k (by decide) rfl) (And.intro (ty.k (by decide) rfl) (And.intro (Nat.le_of_ble_eq_true rfl) (And.intro (Or.inl ⟨(Nat.le_of_ble_eq_true rfl), (ty.k (by decide) rfl)⟩) (And.intro (Nat.le_of_ble_eq_true rfl) (And.intro (Nat.le_of_ble_eq_true rfl) (kjY_mono ty (fun q_ u1 ty1 xu1 h_ => ?_) (kx_refuses ty w hB hj (a := 1) (b := ws.length - 1) (by omega) (by omega) (s := 3) (by decide) _ _ _ rfl (show σ.1 53 4 - Int32.ofInt 1 = _ by rw [h4, show (Int32.ofInt 1) = nI 1 from rfl, pk_sub (by omega)]) rfl)))))))))
  obtain ⟨nm1, p1, w1, s1, q⟩ := h_
  intro _ _
  rcases q with ⟨rfl, q⟩ | ⟨rfl, q⟩
  · refine kjZ_y rfl rfl 1 _ _ _ _ ty1 ?_
    refine And.intro (fun c => ?_) (fun c => ?_)
    · exact absurd (show (1 : Int32) = 0 from c) (by decide)
    refine kjZ_y rfl rfl 1 _ _ _ _ ty1 ?_
    refine And.intro rfl (And.intro rfl ?_)
    exact cd_no p1 w1 hr s1.h rfl
  have hso : ∀ i v, 1 ≤ i → ws[i]? = some v → ¬ soT (skA ks) v (nI 3) = false := fun i v h1 h2 z => q (Or.inr ⟨i, v, h1, by have := (List.getElem?_eq_some_iff.mp h2).1; omega, h2, z⟩)
  obtain ⟨hl0, hl1⟩ := hl hso
  refine kjZ_y rfl rfl 1 _ _ _ _ ty1 ?_
  refine And.intro (fun c => ?_) (fun c => ?_)
  rotate_left
  · exact absurd rfl c
  refine kjZ_y rfl rfl 4 _ _ _ _ ty1 ?_
  refine (And.intro (Nat.le_of_ble_eq_true rfl) (And.intro (Or.inl ⟨(Nat.le_of_ble_eq_true rfl), (ty1.k (by decide) rfl)⟩) (And.intro (Nat.le_of_ble_eq_true rfl) (And.intro (Nat.le_of_ble_eq_true rfl) (kjY_mono ty1 (fun q_ u2 ty2 xu2 h_ => ?_) (kx_fill ty1 w1 hB hS hh (a := 1) (by omega) hso _ rfl hl0 hl1))))))
  obtain ⟨rfl, nm2, p2, w2, s2, t2⟩ := h_
  intro _ _
  obtain ⟨b, hb, eb⟩ := w2.2.2.2.2.2.2.1
  have kb := ob_k ty2 (ANn_b b (ANb_n b hb)).1
  refine kjZ_y rfl rfl 6 _ _ _ _ ty2 ?_
  refine (And.intro (ty2.k (by decide) rfl) (And.intro (ty2.k (by decide) rfl) (Exists.intro _ (And.intro eb (And.intro (ty2.k (by decide) rfl) (And.intro (Nat.le_of_ble_eq_true rfl) (And.intro (Or.inl ⟨(Nat.le_of_ble_eq_true rfl), (by assumption)⟩) (And.intro (Nat.le_of_ble_eq_true rfl) (And.intro (Nat.le_of_ble_eq_true rfl) (kjY_mono ty2 (fun q_ u3 ty3 xu3 h_ => ?_) (kx_rowHead2 ty2 w2 hb _)))))))))))
  obtain ⟨⟨rfl, w3, s3⟩, t3⟩ := h_
  intro _ _
  refine kjZ_y rfl rfl 2 _ _ _ _ ty3 ?_
  refine (And.intro (Nat.le_of_ble_eq_true rfl) ?_)
  refine kjY_mono ty3 (fun r z tz xz hz => ?_) (k_comb_l (σ := u3) (d := d + 1) (hwC how) hj.2 (poM how (skA ks) ws 1).length 0 _ u3 (Nat.zero_add _) rfl ty3 w3 SCl.rf (t3 _ _ t2))
  obtain ⟨hr0, wz, sz⟩ := hz
  rw [hr0]
  exact cd_no (p1.tr p2) wz hr (((s1.tr s2).tr s3).tr sz).h rfl
end KCOMB
