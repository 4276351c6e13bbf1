/-! MSET, MSETNX, ZADD: the room is asked for only where they run. -/
section KJROOM
variable {Y : Nat → MethodName × ByteArray} {d : Nat} {σ0 σ u : kS} {B ws nm nm' : List (List Int32)} {ks : List KC}
theorem kx_mset2 (ty : kTY σ) (w : KWd σ0 B σ ws nm ks) (hr : RSD ks) (hB : BOK B ws) {j : Nat} (hj : CMD σ j) {m : Nat} (hm : 1 + 2 * (m + 1) = ws.length) (hal : ∀ w ∈ ws, w.length ≤ 16384) (hX0 : ¬ fuB (σ.1 59 17) ks j → xtA (skA ks) + sl ws + 16384 ≤ 98304 ∧ ks.length + ws.length / 2 ≤ 2600) (nx : Bool) (x1 : Int32) (e1 : x1 = if nx = true then 1 else 0) {o : Option (List AK)} (ho1 : fuB (σ.1 59 17) ks j → o = none) (ho2 : ¬ fuB (σ.1 59 17) ks j → nx = true → mxA (skA ks) (ws.drop 1) → o = none) (ho3 : ¬ fuB (σ.1 59 17) ks j → ¬ (nx = true ∧ mxA (skA ks) (ws.drop 1)) → o = some (msA (skA ks) (ws.drop 1))) :
    kjY kPP (kQQ Y) (d + 8) 176 0 (mjL0 6 [.ref 67, .int x1]) [] σ (cdP σ0 B σ ws nm ks o) := by
  refine kjZ_y rfl rfl 3 _ _ _ _ ty ?_
  refine (And.intro (ty.k (by decide) rfl) (And.intro (Nat.le_of_ble_eq_true rfl) (And.intro (Or.inl ⟨(Nat.le_of_ble_eq_true rfl), (ty.k (by decide) rfl)⟩) (And.intro (Nat.le_of_ble_eq_true rfl) (And.intro (Nat.le_of_ble_eq_true rfl) (kjY_mono ty (fun q_ u1 ty1 xu1 h_ => ?_) (kx_isFull ty w hj)))))))
  obtain ⟨s1, w1, q⟩ := h_
  intro _ _
  rcases q with ⟨rfl, q⟩ | ⟨rfl, q, rfl⟩
  · refine kjZ_y rfl rfl 1 _ _ _ _ ty1 ?_
    refine And.intro (fun c => ?_) (fun c => ?_)
    · exact absurd (show (1 : Int32) = 0 from c) (by decide)
    refine kjZ_y rfl rfl 1 _ _ _ _ ty1 ?_
    refine And.intro rfl (And.intro rfl ?_)
    exact cd_no PRE.rf w1 hr s1.h (ho1 ((fuB_iff w).mp q))
  rw [fuB_iff w] at q
  obtain ⟨hX, hN⟩ := hX0 q
  have hsl : sl (ws.drop 1) ≤ sl ws := by
    cases ws with
    | nil => exact Nat.le_refl _
    | cons z r => show sl r ≤ z.length + sl r; omega
  -- the answer
  have fin : ∀ (z : kS) (x2 x3 : Int32) (l4 l5 : Option Value) (nm9 : List (List Int32)) (ks9 : List KC), kTY z → KWd σ0 B z ws nm9 ks9 → (∀ z2, KWd σ0 B z2 ws nm9 ks9 → SCl scA z z2 → cdP σ0 B u1 ws nm ks o none z2) → kjY kPP (kQQ Y) (d + 8) 176 75 [some (.ref 67), some (.int x1), some (.int x2), some (.int x3), l4, l5] [] z (cdP σ0 B u1 ws nm ks o) := by
    intro z x2 x3 l4 l5 nm9 ks9 tz wz hz
    obtain ⟨b, hb, eb⟩ := wz.2.2.2.2.2.2.1
    have kb := ob_k tz (ANn_b b (ANb_n b hb)).1
    refine kjZ_y rfl rfl 2 _ _ _ _ tz ?_
    refine And.intro (fun c => ?_) (fun c => ?_)
    · refine kjZ_y rfl rfl 3 _ _ _ _ tz ?_
      refine (And.intro (tz.k (by decide) rfl) (And.intro (Nat.le_of_ble_eq_true rfl) (And.intro (Or.inl ⟨(Nat.le_of_ble_eq_true rfl), (tz.k (by decide) rfl)⟩) (And.intro (Nat.le_of_ble_eq_true rfl) (And.intro (Nat.le_of_ble_eq_true rfl) (kjY_mono tz (fun q_ u5 ty5 xu5 h_ => ?_) (kx_accept tz wz)))))))
      obtain ⟨rfl, w5, s5⟩ := h_
      intro _ _
      refine kjZ_y rfl rfl 1 _ _ _ _ ty5 ?_
      refine And.intro rfl (And.intro rfl ?_)
      exact hz u5 w5 s5
    have go : ∀ n : Int64, kjY kPP (kQQ Y) (d + 8) 176 85 [some (.ref 67), some (.int x1), some (.int x2), some (.int x3), l4, l5] [.long n, .ref b] z (cdP σ0 B u1 ws nm ks o) := by
      intro n
      refine kjZ_y rfl rfl 1 _ _ _ _ tz ?_
      refine (And.intro (Nat.le_of_ble_eq_true rfl) (And.intro (Or.inl ⟨(Nat.le_of_ble_eq_true rfl), (by assumption)⟩) (And.intro (Nat.le_of_ble_eq_true rfl) (And.intro (Nat.le_of_ble_eq_true rfl) (kjY_mono tz (fun q_ u5 ty5 xu5 h_ => ?_) (kx_number tz wz hb _))))))
      obtain ⟨rfl, w5, s5⟩ := h_
      intro _ _
      refine kjZ_y rfl rfl 2 _ _ _ _ ty5 ?_
      refine And.intro rfl (And.intro rfl ?_)
      exact hz u5 w5 s5
    refine kjZ_y rfl rfl 5 _ _ _ _ tz ?_
    refine (And.intro (tz.k (by decide) rfl) (And.intro (tz.k (by decide) rfl) (Exists.intro _ (And.intro eb (And.intro (fun c2 => ?_) (fun c2 => ?_))))))
    · refine kjZ_y rfl rfl 1 _ _ _ _ tz ?_
      exact go _
    · refine kjZ_y rfl rfl 2 _ _ _ _ tz ?_
      exact go _
  -- the pairs come
  have puts : ∀ (z : kS) (nm9 : List (List Int32)) (x3 : Int32) (l4 l5 : Option Value), kTY z → PRE nm nm9 → KWd σ0 B z ws nm9 ks → SCl scA u1 z → ¬ (nx = true ∧ mxA (skA ks) (ws.drop 1)) → kjY kPP (kQQ Y) (d + 8) 176 34 [some (.ref 67), some (.int x1), some (.int 1), some (.int (nI 1)), l4, l5] [] z (cdP σ0 B u1 ws nm ks o) := by
    intro z nm9 x3 l4 l5 tz pz wz sz hnx
    refine k_mset_l (d := d + 2) (σ := u1) (nm := nm) (X := xtA (skA ks) + sl ws) (N := 2600) _ hB hal hX (Nat.le_refl _) x1 1 rfl ?_ (m + 1) 1 _ l4 l5 nm9 ks z (by omega) rfl tz pz wz hr sz.g rfl (Or.inr (by omega)) (by omega) (by omega)
    intro u5 nm5 ks5 y3 y4 y5 t5 p5 w5 r5 s5 e5 c5
    exact fin u5 1 y3 y4 y5 nm5 ks5 t5 w5 (fun z2 w6 s6 => cd_ok p5 w6 r5 e5 ((s6 (59, 18) (by decide)).1.trans c5) (s5.tr s6.g) (ho3 q hnx))
  refine kjZ_y rfl rfl 1 _ _ _ _ ty1 ?_
  refine And.intro (fun c => ?_) (fun c => ?_)
  rotate_left
  · exact absurd rfl c
  refine kjZ_y rfl rfl 4 _ _ _ _ ty1 ?_
  refine (And.intro (Nat.le_of_ble_eq_true rfl) (And.intro (Nat.le_of_ble_eq_true rfl) ?_))
  cases nx with
  | false =>
    have e1 : x1 = 0 := e1
    obtain ⟨-, -, -, -, ⟨h4, h1024⟩, -⟩ := w.2.2.2.1
    refine kjZ_y rfl rfl 5 _ _ _ _ ty1 ?_
    refine (And.intro (ty1.k (by decide) rfl) (And.intro (ty1.k (by decide) rfl) (And.intro (fun c => ?_) (fun c => ?_))))
    · refine absurd (show u1.1 53 4 ≤ nI 1 from c) ?_
      rw [h4, nle (by omega) (by omega)]; omega
    refine kjZ_y rfl rfl 2 _ _ _ _ ty1 ?_
    refine And.intro (fun c2 => ?_) (fun c2 => ?_)
    rotate_left
    · exact absurd e1 c2
    refine kjZ_y rfl rfl 2 _ _ _ _ ty1 ?_
    refine (And.intro (Nat.le_of_ble_eq_true rfl) ?_)
    exact puts u1 nm (nI 1) none none ty1 PRE.rf w SCl.rf (fun z => by cases z.1)
  | true =>
    have e1 : x1 = 1 := e1
    refine k_msnx_l (d := d + 2) (σ := u1) (nm := nm) (ks := ks) _ hB x1 e1 ?_ (m + 1) 1 _ _ none none nm u1 (by omega) rfl ty1 PRE.rf w SCl.rf (Or.inl ⟨rfl, Iff.rfl⟩)
    intro u2 nm2 x2 x3 l4 l5 t2 p2 w2 s2 hx
    rcases hx with ⟨rfl, hx⟩ | ⟨rfl, hx⟩
    · refine kjZ_y rfl rfl 2 _ _ _ _ t2 ?_
      refine (And.intro (Nat.le_of_ble_eq_true rfl) ?_)
      exact puts u2 nm2 x3 l4 l5 t2 p2 w2 s2 (fun z => hx z.2)
    · obtain ⟨-, -, -, -, ⟨h4, h1024⟩, -⟩ := w2.2.2.2.1
      refine kjZ_y rfl rfl 2 _ _ _ _ t2 ?_
      refine (And.intro (Nat.le_of_ble_eq_true rfl) ?_)
      refine kjZ_y rfl rfl 5 _ _ _ _ t2 ?_
      refine (And.intro (t2.k (by decide) rfl) (And.intro (t2.k (by decide) rfl) (And.intro (fun c => ?_) (fun c => ?_))))
      · refine absurd (show u2.1 53 4 ≤ nI 1 from c) ?_
        rw [h4, nle (by omega) (by omega)]; omega
      refine kjZ_y rfl rfl 2 _ _ _ _ t2 ?_
      refine And.intro (fun c2 => ?_) (fun c2 => ?_)
      rotate_left
      · exact absurd rfl c2
      exact fin u2 0 (nI 1) l4 l5 nm2 ks t2 w2 (fun z2 w6 s6 => cd_no p2 w6 hr (s2.tr s6).h (ho2 q rfl hx))
theorem kx_zadd2 (ty : kTY σ) (w : KWd σ0 B σ ws nm ks) (hr : RSD ks) (hB : BOK B ws) {j : Nat} (hj : CMD σ j) {v : List Int32} (hv : ws[1]? = some v) (hl2 : 2 ≤ ws.length) (hS : ∀ x ∈ ks, x.2.2.2.2.2.2.1 = 4 → ZP x.2.2.2.2.2.2.2.2.2.2) (hk1 : ks.length + 1 ≤ 2600) (hcl0 : ¬ rfZ (σ.1 59 17) ks j v 4 → 3 * (clA (skA ks) + 2 * ws.length) ≤ 49000) {o : Option (List AK)} (ho1 : zoR ws = none → o = none) (ho2 : rfZ (σ.1 59 17) ks j v 4 → o = none) (ho3 : ∀ q, zoR ws = some q → ¬ rfZ (σ.1 59 17) ks j v 4 → o = zdF q.1.1 q.1.2.1 q.1.2.2.1 q.1.2.2.2.1 q.1.2.2.2.2.2 (skA ks) v q.2) :
    kjY kPP (kQQ Y) (d + 9) 238 0 (mjL0 3 [.ref 75]) [] σ (cdP σ0 B σ ws nm ks o) := by
  have hlen := (List.getElem?_eq_some_iff.mp hv).1
  refine kjZ_y rfl rfl 2 _ _ _ _ ty ?_
  refine (And.intro (Nat.le_of_ble_eq_true rfl) (And.intro (Or.inl ⟨(Nat.le_of_ble_eq_true rfl), (ty.k (by decide) rfl)⟩) (And.intro (Nat.le_of_ble_eq_true rfl) (And.intro (Nat.le_of_ble_eq_true rfl) (kjY_mono ty (fun q_ u1 ty1 xu1 h_ => ?_) (kx_readFlags ty w hl2))))))
  obtain ⟨w1, s1, q⟩ := h_
  intro _ _
  have hH1 : SCl scH σ u1 := s1.sub (by decide +kernel)
  rcases q with ⟨rfl, q⟩ | ⟨a, b, c, d1, e, g, p, rfl, hz1, hz2, hp2, hpl, h75, h754⟩
  · refine kjZ_y rfl rfl 1 _ _ _ _ ty1 ?_
    refine And.intro (fun c => ?_) (fun c => ?_)
    · exact absurd rfl c
    refine kjZ_y rfl rfl 4 _ _ _ _ ty1 ?_
    refine (And.intro (ty1.k (by decide) rfl) (And.intro rfl (And.intro (Nat.le_of_ble_eq_true rfl) (And.intro (Or.inl ⟨(Nat.le_of_ble_eq_true rfl), (ty1.k (by decide) rfl)⟩) (And.intro (Nat.le_of_ble_eq_true rfl) (And.intro (Nat.le_of_ble_eq_true rfl) (kjY_mono ty1 (fun q_ u2 ty2 xu2 h_ => ?_) (kx_refuse ty1 w1 (i := 160) (by decide)))))))))
    obtain ⟨rfl, w2, s2⟩ := h_
    intro _ _
    refine kjZ_y rfl rfl 1 _ _ _ _ ty2 ?_
    refine And.intro rfl (And.intro rfl ?_)
    exact cd_no PRE.rf w2 hr (hH1.tr s2.h) (ho1 (zoR_no q))
  refine kjZ_y rfl rfl 1 _ _ _ _ ty1 ?_
  refine And.intro (fun c0 => ?_) (fun c0 => ?_)
  rotate_left
  · exact absurd (show ¬ (1 : Int32) = 0 by decide) c0
  obtain ⟨hl3, hl4, hl5⟩ := zoC_len hz2
  rw [List.length_drop] at hl3 hl4 hl5
  have hzR := zoR_at hz1 hz2
  refine kjZ_y rfl rfl 3 _ _ _ _ ty1 ?_
  refine (And.intro (ty1.k (by decide) rfl) (And.intro (Nat.le_of_ble_eq_true rfl) ?_))
  show kjY kPP (kQQ Y) (d + 9) 238 11 [some (.ref 75), some (.int (u1.1 75 4)), none] [] u1 (cdP σ0 B σ ws nm ks o)
  refine kjY_mono (K := cdP σ0 B u1 ws nm ks o) ty1 (fun r z _ _ hz => cdP.pre hz hH1 PRE.rf) ?_
  refine k_zint_l (σ := u1) (d := d + 1) hr (p := p) (fun h => ho1 (by rw [hzR, if_neg h])) (fun u x1 tu wu su hzb hlast => ?_) ((ws.length - p) / 2) 0 _ u1 (by omega) h754 ty1 w1 SCl.rf rfl (fun n s h => absurd h (by omega))
  have hok : zOK (ws.drop p) := zOb_ok _ _ (Nat.le_refl _) (by rw [List.length_drop]; exact hl4) hzb
  rw [if_pos hzb] at hzR
  have hHu : SCl scH σ u := hH1.tr (su.sub scHB)
  have f75 : u.1 75 3 = enF a b c d1 e g := (su (75, 3) (by decide)).1.trans h75
  have f754 : u.1 75 4 = nI p := (su (75, 4) (by decide)).1.trans h754
  refine kjZ_y rfl rfl 6 _ _ _ _ tu ?_
  refine (And.intro (tu.k (by decide) rfl) (And.intro (Nat.le_of_ble_eq_true rfl) (And.intro (Or.inl ⟨(Nat.le_of_ble_eq_true rfl), (tu.k (by decide) rfl)⟩) (And.intro (Nat.le_of_ble_eq_true rfl) (And.intro (Nat.le_of_ble_eq_true rfl) (kjY_mono tu (fun q_ u2 ty2 xu2 h_ => ?_) (kx_refuses tu wu hB (hj.sc hHu) (a := 1) (b := 1) (by omega) (by omega) (s := 4) (by decide) _ _ _ rfl rfl rfl)))))))
  obtain ⟨nm1, p1, w2, s2, q⟩ := h_
  intro _ _
  rw [rf1 wu hv, (hHu (59, 17) (by decide)).1] at q
  rcases q with ⟨rfl, q⟩ | ⟨rfl, q⟩
  · refine kjZ_y rfl rfl 1 _ _ _ _ ty2 ?_
    refine And.intro (fun c2 => ?_) (fun c2 => ?_)
    · exact absurd (show (1 : Int32) = 0 from c2) (by decide)
    refine kjZ_y rfl rfl 1 _ _ _ _ ty2 ?_
    refine And.intro rfl (And.intro rfl ?_)
    exact cd_no p1 w2 hr ((su.sub scHB).tr s2.h) (ho2 q)
  have ho := ho3 _ hzR q
  have hcl := hcl0 q
  have ho : o = zdF (bI a) (bI b) (bI c) (bI d1) (bI g) (skA ks) v (ws.drop p) := ho
  have hso := fun z => q (Or.inr z)
  refine kjZ_y rfl rfl 1 _ _ _ _ ty2 ?_
  refine And.intro (fun c2 => ?_) (fun c2 => ?_)
  rotate_left
  · exact absurd rfl c2
  refine kjZ_y rfl rfl 4 _ _ _ _ ty2 ?_
  refine (And.intro (ty2.k (by decide) rfl) (And.intro (Nat.le_of_ble_eq_true rfl) (And.intro (Or.inl ⟨(Nat.le_of_ble_eq_true rfl), (ty2.k (by decide) rfl)⟩) (And.intro (Nat.le_of_ble_eq_true rfl) (And.intro (Nat.le_of_ble_eq_true rfl) (kjY_mono ty2 (fun q_ u3 ty3 xu3 h_ => ?_) (kx_id ty2 w2 hB hv _ rfl)))))))
  obtain ⟨k, nm2, rfl, p2, p3, w3, s3⟩ := h_
  intro _ _
  refine kjZ_y rfl rfl 5 _ _ _ _ ty3 ?_
  refine (And.intro (Nat.le_of_ble_eq_true rfl) (And.intro (ty3.k (by decide) rfl) (And.intro (Nat.le_of_ble_eq_true rfl) (And.intro (Or.inl ⟨(Nat.le_of_ble_eq_true rfl), (ty3.k (by decide) rfl)⟩) (And.intro (Nat.le_of_ble_eq_true rfl) (And.intro (Nat.le_of_ble_eq_true rfl) (kjY_mono ty3 (fun q_ u4 ty4 xu4 h_ => ?_) (kx_find ty3 w3 p2 _ rfl))))))))
  obtain ⟨rfl, q3⟩ := h_
  intro _ _
  have s34 : SCl scA u u4 := s2.tr s3
  have pA := p1.tr p3
  have g75 : u4.1 75 3 = enF a b c d1 e g := (s34 (75, 3) (by decide)).1.trans f75
  have g754 : u4.1 75 4 = nI p := (s34 (75, 4) (by decide)).1.trans f754
  have sHu : SCl scH u1 u4 := (su.sub scHB).tr s34.h
  -- INCR asks one pair
  have inc1 : g = true → ∃ s v3 n, ws.drop p = [s, v3] ∧ ws[p + 1]? = some v3 ∧ intF s = some n ∧ u4.2.1 53 9 = n := by
    intro hg
    have hl6 := hl5 (by show ¬ bI g = 0; rw [hg]; decide)
    have hjl : p + 1 < ws.length := by omega
    have hd : ws.drop p = ws[p] :: ws[p + 1] :: ws.drop (p + 2) := by
      rw [List.drop_eq_getElem_cons (by omega), List.drop_eq_getElem_cons hjl]
    obtain ⟨n, g1, g2⟩ := hlast 0 ws[p] (by omega) (List.getElem?_eq_getElem (show p + 2 * 0 < ws.length by omega))
    refine ⟨ws[p], ws[p + 1], n, by rw [hd, List.drop_eq_nil_of_le (show ws.length ≤ p + 2 by omega)], List.getElem?_eq_getElem hjl, g1, ?_⟩
    exact (s34 (53, 9) (by decide)).2.1.trans g2
  rcases q3 with ⟨rfl, q3⟩ | ⟨P, y, Q, rfl, f0, f1, f2⟩
  · refine kjZ_y rfl rfl 4 _ _ _ _ ty4 ?_
    refine (And.intro (Nat.le_of_ble_eq_true rfl) (And.intro (Nat.le_of_ble_eq_true rfl) (And.intro (Or.inl ⟨(Nat.le_of_ble_eq_true rfl), (ty4.k (by decide) rfl)⟩) (And.intro (Nat.le_of_ble_eq_true rfl) (And.intro (Nat.le_of_ble_eq_true rfl) (kjY_mono ty4 (fun q_ u5 ty5 xu5 h_ => ?_) (kx_told ty4 _)))))))
    obtain ⟨rfl, q5⟩ := h_
    intro _ _
    rcases q5 with ⟨rfl, q5⟩ | ⟨rfl, q5⟩
    · have q5 : ¬ u5.1 75 3 &&& 32 = 0 := q5
      rw [g75, enF_32] at q5
      have hg : g = true := by cases g; exact absurd rfl q5; rfl
      obtain ⟨s, v3, n, i1, i2, i3, i4⟩ := inc1 hg
      rw [i1, hg, zd_in (by decide) i3] at ho
      refine kjZ_y rfl rfl 1 _ _ _ _ ty5 ?_
      refine And.intro (fun c3 => ?_) (fun c3 => ?_)
      · exact absurd (show (1 : Int32) = 0 from c3) (by decide)
      refine kjZ_y rfl rfl 10 _ _ _ _ ty5 ?_
      refine (And.intro (ty5.k (by decide) rfl) (And.intro (ty5.k (by decide) rfl) (And.intro (Nat.le_of_ble_eq_true rfl) (And.intro (Or.inl ⟨(Nat.le_of_ble_eq_true rfl), (ty5.k (by decide) rfl)⟩) (And.intro (Nat.le_of_ble_eq_true rfl) (And.intro (Nat.le_of_ble_eq_true rfl) (kjY_mono ty5 (fun q_ u6 ty6 xu6 h_ => ?_) (kx_id ty5 w3 hB i2 _ (by rw [g754]; exact nI_1 p)))))))))
      obtain ⟨k3, nm3, rfl, p4, p5, w6, s6⟩ := h_
      intro _ _
      refine kjZ_y rfl rfl 1 _ _ _ _ ty6 ?_
      refine (And.intro (Nat.le_of_ble_eq_true rfl) (And.intro (Or.inl ⟨(Nat.le_of_ble_eq_true rfl), (ty6.k (by decide) rfl)⟩) (And.intro (Nat.le_of_ble_eq_true rfl) (And.intro (Nat.le_of_ble_eq_true rfl) (kjY_mono ty6 (fun q_ u7 ty7 xu7 h_ => ?_) (kx_incr0 (d := d + 1) ty6 w6 hr (p5.get p2) p4 q3 a b c d1 e g ((s6 (75, 3) (by decide)).1.trans g75) ((s6 (53, 9) (by decide)).2.1.trans i4) hk1 (by omega) _ _ rfl rfl))))))
      have q7 := h_
      intro _ _
      obtain ⟨rfl, -⟩ := id q7
      refine kjZ_y rfl rfl 2 _ _ _ _ ty7 ?_
      refine And.intro rfl (And.intro rfl ?_)
      rw [ho]
      exact q7.pre (sHu.tr s6.h) (pA.tr p5)
    · have q5 : u5.1 75 3 &&& 32 = 0 := q5
      rw [g75, enF_32] at q5
      rw [q5] at ho g75
      refine kjZ_y rfl rfl 1 _ _ _ _ ty5 ?_
      refine And.intro (fun c3 => ?_) (fun c3 => ?_)
      rotate_left
      · exact absurd rfl c3
      refine kjZ_y rfl rfl 4 _ _ _ _ ty5 ?_
      refine (And.intro (Nat.le_of_ble_eq_true rfl) (And.intro (Or.inl ⟨(Nat.le_of_ble_eq_true rfl), (ty5.k (by decide) rfl)⟩) (And.intro (Nat.le_of_ble_eq_true rfl) (And.intro (Nat.le_of_ble_eq_true rfl) (kjY_mono ty5 (fun q_ u7 ty7 xu7 h_ => ?_) (kx_addPairs0 (d := d + 2) ty5 w3 hr hB p2 q3 a b c d1 e g75 (p := p) (m := (ws.length - p) / 2 - 1) g754 (by omega) hok hk1 hcl _ rfl))))))
      have q7 := h_
      intro _ _
      obtain ⟨rfl, -⟩ := id q7
      refine kjZ_y rfl rfl 1 _ _ _ _ ty7 ?_
      refine And.intro rfl (And.intro rfl ?_)
      rw [ho]
      exact q7.pre sHu pA
  · have ks0 := f0
    subst f0
    have hs4 : y.2.2.2.2.2.2.1 = 4 := so_1 (s := 4) f2 hso
    have hs0 : ¬ y.2.2.2.2.2.2.1 = 0 := by rw [hs4]; decide
    have hZ := hS y (List.mem_append_right _ List.mem_cons_self) hs4
    have kv := (w3.sz hs0).2.2
    refine kjZ_y rfl rfl 4 _ _ _ _ ty4 ?_
    refine (And.intro (Nat.le_of_ble_eq_true rfl) (And.intro (Nat.le_of_ble_eq_true rfl) (And.intro (Or.inl ⟨(Nat.le_of_ble_eq_true rfl), (ty4.k (by decide) rfl)⟩) (And.intro (Nat.le_of_ble_eq_true rfl) (And.intro (Nat.le_of_ble_eq_true rfl) (kjY_mono ty4 (fun q_ u5 ty5 xu5 h_ => ?_) (kx_told ty4 _)))))))
    obtain ⟨rfl, q5⟩ := h_
    intro _ _
    rcases q5 with ⟨rfl, q5⟩ | ⟨rfl, q5⟩
    · have q5 : ¬ u5.1 75 3 &&& 32 = 0 := q5
      rw [g75, enF_32] at q5
      have hg : g = true := by cases g; exact absurd rfl q5; rfl
      obtain ⟨s, v3, n, i1, i2, i3, i4⟩ := inc1 hg
      rw [i1, hg, zd_in (by decide) i3] at ho
      refine kjZ_y rfl rfl 1 _ _ _ _ ty5 ?_
      refine And.intro (fun c3 => ?_) (fun c3 => ?_)
      · exact absurd (show (1 : Int32) = 0 from c3) (by decide)
      refine kjZ_y rfl rfl 10 _ _ _ _ ty5 ?_
      refine (And.intro (ty5.k (by decide) rfl) (And.intro (ty5.k (by decide) rfl) (And.intro (Nat.le_of_ble_eq_true rfl) (And.intro (Or.inl ⟨(Nat.le_of_ble_eq_true rfl), (ty5.k (by decide) rfl)⟩) (And.intro (Nat.le_of_ble_eq_true rfl) (And.intro (Nat.le_of_ble_eq_true rfl) (kjY_mono ty5 (fun q_ u6 ty6 xu6 h_ => ?_) (kx_id ty5 w3 hB i2 _ (by rw [g754]; exact nI_1 p)))))))))
      obtain ⟨k3, nm3, rfl, p4, p5, w6, s6⟩ := h_
      intro _ _
      have kv6 : (u6.2.2.2.1 y.1).1 = 11 := xu6.k ty5 kv (by decide)
      refine kjZ_y rfl rfl 1 _ _ _ _ ty6 ?_
      refine (And.intro (Nat.le_of_ble_eq_true rfl) (And.intro (Or.inl ⟨(Nat.le_of_ble_eq_true rfl), (ty6.k (by decide) rfl)⟩) (And.intro (Nat.le_of_ble_eq_true rfl) (And.intro (Nat.le_of_ble_eq_true rfl) (kjY_mono ty6 (fun q_ u7 ty7 xu7 h_ => ?_) (kx_incr1 (d := d + 1) ty6 w6 hr (p5.get p2) p4 f2 f1 hs4 hZ a b c d1 e g ((s6 (75, 3) (by decide)).1.trans g75) ((s6 (53, 9) (by decide)).2.1.trans i4) (by omega) _ _ rfl rfl))))))
      have q7 := h_
      intro _ _
      obtain ⟨rfl, -⟩ := id q7
      refine kjZ_y rfl rfl 2 _ _ _ _ ty7 ?_
      refine And.intro rfl (And.intro rfl ?_)
      rw [ho]
      exact q7.pre (sHu.tr s6.h) (pA.tr p5)
    · have q5 : u5.1 75 3 &&& 32 = 0 := q5
      rw [g75, enF_32] at q5
      rw [q5] at ho g75
      refine kjZ_y rfl rfl 1 _ _ _ _ ty5 ?_
      refine And.intro (fun c3 => ?_) (fun c3 => ?_)
      rotate_left
      · exact absurd rfl c3
      refine kjZ_y rfl rfl 4 _ _ _ _ ty5 ?_
      refine (And.intro (Nat.le_of_ble_eq_true rfl) (And.intro (Or.inl ⟨(Nat.le_of_ble_eq_true rfl), (ty5.k (by decide) rfl)⟩) (And.intro (Nat.le_of_ble_eq_true rfl) (And.intro (Nat.le_of_ble_eq_true rfl) (kjY_mono ty5 (fun q_ u7 ty7 xu7 h_ => ?_) (kx_addPairs1 (d := d + 2) ty5 w3 hr hB p2 f2 f1 hs4 hZ a b c d1 e g75 (p := p) (m := (ws.length - p) / 2) g754 (by omega) hok hcl _ rfl))))))
      have q7 := h_
      intro _ _
      obtain ⟨rfl, -⟩ := id q7
      refine kjZ_y rfl rfl 1 _ _ _ _ ty7 ?_
      refine And.intro rfl (And.intro rfl ?_)
      rw [ho]
      exact q7.pre sHu pA
theorem kx_combStore2 (ty : kTY σ) (w : KWd σ0 B σ ws nm ks) (hr : RSD ks) (hB : BOK B ws) {how : Nat} (hh : how < 3) (hj : CMD σ (hsC how)) {v : List Int32} (hv : ws[1]? = some v) (hl2 : 3 ≤ ws.length) (hS : ∀ x ∈ ks, x.2.2.2.2.2.2.1 = 3 → SP x.2.2.2.2.2.2.2.2.2.2) (hk1 : ks.length + 1 ≤ 2600) (hl : (¬ fuB (σ.1 59 17) ks (hsC how)) → (∀ i v, 2 ≤ i → ws[i]? = some v → ¬ soT (skA ks) v (nI 3) = false) → (adL [] (esA (skA ks) (ws.getD 2 []))).length ≤ 8700 ∧ (how = 1 → (poM how (skA ks) ws 2).length ≤ 8700) ∧ 3 * (clA (skA ks) + (poM how (skA ks) ws 2).length) ≤ 49000) {o : Option (List AK)} (ho2 : (fuB (σ.1 59 17) ks (hsC how) ∨ ∃ i v, 2 ≤ i ∧ ws[i]? = some v ∧ soT (skA ks) v (nI 3) = false) → o = none) (ho3 : ¬ (fuB (σ.1 59 17) ks (hsC how) ∨ ∃ i v, 2 ≤ i ∧ ws[i]? = some v ∧ soT (skA ks) v (nI 3) = false) → o = rrF (skA ks) v (poM how (skA ks) ws 2)) :
    kjY kPP (kQQ Y) (d + 7) 224 0 (mjL0 5 [.ref 71, .ref (1000000 + hsC how)]) [] σ (cdP σ0 B σ ws nm ks o) := by
  have kj : kCm (1000000 + hsC how) := ⟨hsC how, hj.2, rfl⟩
  obtain ⟨-, -, -, -, ⟨h4, h1024⟩, -⟩ := w.2.2.2.1
  refine kjZ_y rfl rfl 10 _ _ _ _ ty ?_
  refine (And.intro (ty.k (by decide) rfl) (And.intro (ty.k (by decide) rfl) (And.intro (ty.k (by decide) rfl) (And.intro (Nat.le_of_ble_eq_true rfl) (And.intro (Or.inl ⟨(Nat.le_of_ble_eq_true rfl), (ty.k (by decide) rfl)⟩) (And.intro (Nat.le_of_ble_eq_true rfl) (And.intro (Nat.le_of_ble_eq_true rfl) (kjY_mono ty (fun q_ u1 ty1 xu1 h_ => ?_) (kx_refuses ty w hB hj (a := 2) (b := ws.length - 1) (by omega) (by omega) (s := 3) (by decide) _ _ _ rfl (show σ.1 53 4 - Int32.ofInt 1 = _ by rw [h4, show (Int32.ofInt 1) = nI 1 from rfl, pk_sub (by omega)]) rfl)))))))))
  obtain ⟨nm1, p1, w1, s1, q⟩ := h_
  intro _ _
  have hq : (fullB σ (hsC how) ∨ ∃ i v, 2 ≤ i ∧ i ≤ ws.length - 1 ∧ ws[i]? = some v ∧ soT (skA ks) v (nI 3) = false) ↔ (fuB (σ.1 59 17) ks (hsC how) ∨ ∃ i v, 2 ≤ i ∧ ws[i]? = some v ∧ soT (skA ks) v (nI 3) = false) := by
    unfold fullB fuB
    rw [w.mem]
    constructor
    · rintro (h | ⟨i, v, h1, -, h2, h3⟩)
      · exact Or.inl h
      · exact Or.inr ⟨i, v, h1, h2, h3⟩
    · rintro (h | ⟨i, v, h1, h2, h3⟩)
      · exact Or.inl h
      · exact Or.inr ⟨i, v, h1, by have := (List.getElem?_eq_some_iff.mp h2).1; omega, h2, h3⟩
  rw [hq] at q
  rcases q with ⟨rfl, q⟩ | ⟨rfl, q⟩
  · refine kjZ_y rfl rfl 1 _ _ _ _ ty1 ?_
    refine And.intro (fun c => ?_) (fun c => ?_)
    · exact absurd (show (1 : Int32) = 0 from c) (by decide)
    refine kjZ_y rfl rfl 1 _ _ _ _ ty1 ?_
    refine And.intro rfl (And.intro rfl ?_)
    exact cd_no p1 w1 hr s1.h (ho2 q)
  have ho := ho3 q
  have hso : ∀ i v, 2 ≤ i → ws[i]? = some v → ¬ soT (skA ks) v (nI 3) = false := fun i v h1 h2 z => q (Or.inr ⟨i, v, h1, h2, z⟩)
  obtain ⟨hl0, hl1, hcl⟩ := hl (fun z => q (Or.inl z)) hso
  refine kjZ_y rfl rfl 1 _ _ _ _ ty1 ?_
  refine And.intro (fun c => ?_) (fun c => ?_)
  rotate_left
  · exact absurd rfl c
  have fin : ∀ n, n = hwC how → kjY kPP (kQQ Y) (d + 7) 224 24 [some (.ref 71), some (.ref (1000000 + hsC how)), none, none, none] [.ref (1000000 + n), .ref 71] u1 (cdP σ0 B σ ws nm ks o) := fun n e => by
    rw [e]
    exact kjY_mono ty1 (fun r z tz xz hz => hz.pre s1.h p1) (kx_cs24 (d := d) ty1 w1 hr hB hh hv hl2 hS hso hl0 hl1 hk1 hcl _ kj ho)
  have e0 : how = 0 ↔ 1000000 + hsC how = 1000072 := by
    unfold hsC; rcases (show how = 0 ∨ how = 1 ∨ how = 2 by omega) with h | h | h <;> subst h <;> decide
  have e1 : how = 1 ↔ 1000000 + hsC how = 1000082 := by
    unfold hsC; rcases (show how = 0 ∨ how = 1 ∨ how = 2 by omega) with h | h | h <;> subst h <;> decide
  refine kjZ_y rfl rfl 4 _ _ _ _ ty1 ?_
  refine And.intro ⟨(by assumption), ⟨72, by decide, rfl⟩, Or.inr rfl⟩ (And.intro (fun c2 => ?_) (fun c2 => ?_))
  rotate_left
  · have h0 : how = 0 := e0.mpr (Decidable.of_not_not (fun z => c2 (ac_ne.mpr z)))
    refine kjZ_y rfl rfl 2 _ _ _ _ ty1 ?_
    exact fin 71 (by rw [h0]; rfl)
  have h0 : ¬ how = 0 := fun z => ac_ne.mp c2 (e0.mp z)
  refine kjZ_y rfl rfl 3 _ _ _ _ ty1 ?_
  refine And.intro ⟨(by assumption), ⟨82, by decide, rfl⟩, Or.inr rfl⟩ (And.intro (fun c3 => ?_) (fun c3 => ?_))
  rotate_left
  · have h1 : how = 1 := e1.mpr (Decidable.of_not_not (fun z => c3 (ac_ne.mpr z)))
    refine kjZ_y rfl rfl 2 _ _ _ _ ty1 ?_
    exact fin 81 (by rw [h1]; rfl)
  have h1 : ¬ how = 1 := fun z => ac_ne.mp c3 (e1.mp z)
  refine kjZ_y rfl rfl 1 _ _ _ _ ty1 ?_
  exact fin 64 (by unfold hwC; rw [if_neg h0, if_neg h1])
end KJROOM
