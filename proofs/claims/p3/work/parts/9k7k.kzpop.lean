/-! ZPOPMIN, ZPOPMAX; a line told, of any length. -/
theorem nI_ofp {x : Int32} (h : 0 ≤ x) : ∃ n, n < 2 ^ 31 ∧ x = nI n := by
  have h1 := Int32.le_iff_toInt_le.mp h
  have h2 := Int32.toInt_lt x
  have h1 : 0 ≤ x.toInt := h1
  refine ⟨x.toInt.toNat, by omega, Int32.toInt_inj.mp ?_⟩
  have e : (nI x.toInt.toNat).toInt = ((x.toInt.toNat : Nat) : Int) := nI_toInt (by omega)
  rw [e]; omega
section KZPOP
variable {Y : Nat → MethodName × ByteArray} {d : Nat} {σ0 σ u : kS} {B ws nm nm' : List (List Int32)} {ks : List KC}
theorem k_tlin2_l {P Q : List KC} {x : KC} (hs : ¬ x.2.2.2.2.2.2.1 = 0) {n : Nat} (hn : n < 2 ^ 31) (x2 x3 x4 : Int32) (e3 : x3 = nI n) :
    ∀ (f i : Nat) (x5 : Int32) (o6 : Option Value) (u : kS), i + f = n → x5 = nI i → kTY u → KWd σ0 B u ws nm (P ++ x :: Q) → SCl scA σ u →
    kjY kPP (kQQ Y) (d + 7) 246 14 [some (.ref 75), some (.ref x.1), some (.int x2), some (.int x3), some (.int x4), some (.int x5), o6] [] u (wP σ0 B σ ws nm (P ++ x :: Q)) := by
  intro f
  induction f with
  | zero =>
    intro i x5 o6 u hi e5 tu wu su
    have kv := (wu.sz hs).2.2
    refine kjZ_y rfl rfl 3 _ _ _ _ tu ?_
    refine And.intro (fun c => ?_) (fun c => ?_)
    rotate_left
    · refine absurd (show x3 ≤ x5 from ?_) c
      rw [e3, e5, nle (by omega) (by omega)]; omega
    refine kjZ_y rfl rfl 1 _ _ _ _ tu ?_
    refine And.intro rfl (And.intro rfl ?_)
    exact ⟨rfl, wu, su⟩
  | succ f ih =>
    intro i x5 o6 u hi e5 tu wu su
    have kv := (wu.sz hs).2.2
    refine kjZ_y rfl rfl 3 _ _ _ _ tu ?_
    refine And.intro (fun c => ?_) (fun c => ?_)
    · refine absurd (show x3 ≤ x5 from c) ?_
      rw [e3, e5, nle (by omega) (by omega)]; omega
    have s28 : ∀ y : Int32, kjY kPP (kQQ Y) (d + 7) 246 28 [some (.ref 75), some (.ref x.1), some (.int x2), some (.int x3), some (.int x4), some (.int x5), o6] [.int y] u (wP σ0 B σ ws nm (P ++ x :: Q)) := by
      intro y
      obtain ⟨b, hb, eb⟩ := wu.2.2.2.2.2.2.1
      have kb := ob_k tu (ANn_b b (ANb_n b hb)).1
      refine kjZ_y rfl rfl 6 _ _ _ _ tu ?_
      refine (And.intro (Nat.le_of_ble_eq_true rfl) (And.intro (tu.k (by decide) rfl) (And.intro (Nat.le_of_ble_eq_true rfl) (And.intro (Or.inl ⟨(Nat.le_of_ble_eq_true rfl), (by assumption)⟩) (And.intro (Nat.le_of_ble_eq_true rfl) (And.intro (Nat.le_of_ble_eq_true rfl) (kjY_mono tu (fun q_ u1 ty1 xu1 h_ => ?_) (kx_voS tu wu _))))))))
      obtain ⟨rfl, yo, rfl⟩ := h_
      intro _ _
      refine kjZ_y rfl rfl 4 _ _ _ _ ty1 ?_
      refine (And.intro (ty1.k (by decide) rfl) (And.intro (ty1.k (by decide) rfl) (Exists.intro _ (And.intro eb (And.intro (Nat.le_of_ble_eq_true rfl) (And.intro (Or.inl ⟨(Nat.le_of_ble_eq_true rfl), (ty1.k (by decide) rfl)⟩) (And.intro (Nat.le_of_ble_eq_true rfl) (And.intro (Nat.le_of_ble_eq_true rfl) (kjY_mono ty1 (fun q_ u2 ty2 xu2 h_ => ?_) (kx_copyWord ty1 wu hb _))))))))))
      obtain ⟨rfl, w2, s2⟩ := h_
      intro _ _
      have kv2 := (w2.sz hs).2.2
      have nx : ∀ u, kTY u → KWd σ0 B u ws nm (P ++ x :: Q) → SCl scA σ u → kjY kPP (kQQ Y) (d + 7) 246 48 [some (.ref 75), some (.ref x.1), some (.int x2), some (.int x3), some (.int x4), some (.int x5), some (.int y)] [] u (wP σ0 B σ ws nm (P ++ x :: Q)) := by
        intro u tu wu su
        have kv := (wu.sz hs).2.2
        refine kjZ_y rfl rfl 2 _ _ _ _ tu ?_
        exact ih (i + 1) _ _ u (by omega) (by rw [e5]; exact nI_1 i) tu wu su
      refine kjZ_y rfl rfl 3 _ _ _ _ ty2 ?_
      refine (And.intro (ty2.k (by decide) rfl) (And.intro (fun c2 => ?_) (fun c2 => ?_)))
      · exact nx u2 ty2 w2 (su.tr s2)
      obtain ⟨b', hb', eb'⟩ := w2.2.2.2.2.2.2.1
      have kb' := ob_k ty2 (ANn_b b' (ANb_n b' hb')).1
      obtain ⟨fr, vs, k9, n9, e9, t9, cs9, hR, -, a1, -⟩ := w2.op_
      refine kjZ_y rfl rfl 6 _ _ _ _ ty2 ?_
      refine (And.intro (ty2.k (by decide) rfl) (And.intro (ty2.k (by decide) rfl) (Exists.intro _ (And.intro eb' (And.intro (Nat.le_of_ble_eq_true rfl) (And.intro (Or.inl ⟨(Nat.le_of_ble_eq_true rfl), (by assumption)⟩) (And.intro (Nat.le_of_ble_eq_true rfl) (And.intro (Nat.le_of_ble_eq_true rfl) (kjY_mono ty2 (fun q_ u3 ty3 xu3 h_ => ?_) (k_vls ty2 hR a1 _))))))))))
      obtain ⟨rfl, ys, rfl, -⟩ := h_
      intro _ _
      refine kjZ_y rfl rfl 1 _ _ _ _ ty3 ?_
      refine (And.intro (Nat.le_of_ble_eq_true rfl) (And.intro (Or.inl ⟨(Nat.le_of_ble_eq_true rfl), (by assumption)⟩) (And.intro (Nat.le_of_ble_eq_true rfl) (And.intro (Nat.le_of_ble_eq_true rfl) (kjY_mono ty3 (fun q_ u4 ty4 xu4 h_ => ?_) (kx_numberWord ty3 w2 hb' _))))))
      obtain ⟨rfl, w4, s4⟩ := h_
      intro _ _
      exact nx u4 ty4 w4 ((su.tr s2).tr s4)
    refine kjZ_y rfl rfl 2 _ _ _ _ tu ?_
    refine kjZ_y rfl rfl 2 _ _ _ _ tu ?_
    refine And.intro (fun c2 => ?_) (fun c2 => ?_)
    · refine kjZ_y rfl rfl 3 _ _ _ _ tu ?_
      exact s28 _
    · refine kjZ_y rfl rfl 4 _ _ _ _ tu ?_
      exact s28 _
theorem kx_tellLin2 (ty : kTY σ) {P Q : List KC} {x : KC} (w : KWd σ0 B σ ws nm (P ++ x :: Q)) (hs : ¬ x.2.2.2.2.2.2.1 = 0) {n : Nat} (hn : n < 2 ^ 31) (x2 x3 x4 : Int32) (e3 : x3 = nI n) : kjY kPP (kQQ Y) (d + 7) 246 0 (mjL0 7 [.ref 75, .ref x.1, .int x2, .int x3, .int x4]) [] σ (wP σ0 B σ ws nm (P ++ x :: Q)) := by
  obtain ⟨b, hb, eb⟩ := w.2.2.2.2.2.2.1
  have kb := ob_k ty (ANn_b b (ANb_n b hb)).1
  have kv := (w.sz hs).2.2
  have go : ∀ y : Int32, kjY kPP (kQQ Y) (d + 7) 246 11 [some (.ref 75), some (.ref x.1), some (.int x2), some (.int x3), some (.int x4), none, none] [.int y, .ref b] σ (wP σ0 B σ ws nm (P ++ x :: Q)) := by
    intro y
    refine kjZ_y rfl rfl 1 _ _ _ _ ty ?_
    refine (And.intro (Nat.le_of_ble_eq_true rfl) (And.intro (Or.inl ⟨(Nat.le_of_ble_eq_true rfl), (by assumption)⟩) (And.intro (Nat.le_of_ble_eq_true rfl) (And.intro (Nat.le_of_ble_eq_true rfl) (kjY_mono ty (fun q_ u1 ty1 xu1 h_ => ?_) (kx_rowHead ty w hb _))))))
    obtain ⟨rfl, w1, s1⟩ := h_
    intro _ _
    have kv1 := (w1.sz hs).2.2
    refine kjZ_y rfl rfl 2 _ _ _ _ ty1 ?_
    refine (And.intro (Nat.le_of_ble_eq_true rfl) ?_)
    exact k_tlin2_l hs hn x2 x3 x4 e3 n 0 _ _ u1 (Nat.zero_add _) rfl ty1 w1 s1
  refine kjZ_y rfl rfl 6 _ _ _ _ ty ?_
  refine (And.intro (ty.k (by decide) rfl) (And.intro (ty.k (by decide) rfl) (Exists.intro _ (And.intro eb (And.intro (ty.k (by decide) rfl) (And.intro (fun c => ?_) (fun c => ?_)))))))
  · refine kjZ_y rfl rfl 1 _ _ _ _ ty ?_
    exact go _
  · refine kjZ_y rfl rfl 4 _ _ _ _ ty ?_
    exact go _
theorem kx_tellLinA (ty : kTY σ) {P Q : List KC} {x : KC} (w : KWd σ0 B σ ws nm (P ++ x :: Q)) (hs : ¬ x.2.2.2.2.2.2.1 = 0) (x2 x3 x4 : Int32) : kjY kPP (kQQ Y) (d + 7) 246 0 (mjL0 7 [.ref 75, .ref x.1, .int x2, .int x3, .int x4]) [] σ (wP σ0 B σ ws nm (P ++ x :: Q)) := by
  by_cases c : 0 ≤ x3
  · obtain ⟨n, hn, e⟩ := nI_ofp c
    exact kx_tellLin2 ty w hs hn x2 x3 x4 e
  · obtain ⟨b, hb, eb⟩ := w.2.2.2.2.2.2.1
    have kb := ob_k ty (ANn_b b (ANb_n b hb)).1
    have kv := (w.sz hs).2.2
    have go : ∀ y : Int32, kjY kPP (kQQ Y) (d + 7) 246 11 [some (.ref 75), some (.ref x.1), some (.int x2), some (.int x3), some (.int x4), none, none] [.int y, .ref b] σ (wP σ0 B σ ws nm (P ++ x :: Q)) := by
      intro y
      refine kjZ_y rfl rfl 1 _ _ _ _ ty ?_
      refine (And.intro (Nat.le_of_ble_eq_true rfl) (And.intro (Or.inl ⟨(Nat.le_of_ble_eq_true rfl), (by assumption)⟩) (And.intro (Nat.le_of_ble_eq_true rfl) (And.intro (Nat.le_of_ble_eq_true rfl) (kjY_mono ty (fun q_ u1 ty1 xu1 h_ => ?_) (kx_rowHead ty w hb _))))))
      obtain ⟨rfl, w1, s1⟩ := h_
      intro _ _
      have kv1 := (w1.sz hs).2.2
      refine kjZ_y rfl rfl 2 _ _ _ _ ty1 ?_
      refine (And.intro (Nat.le_of_ble_eq_true rfl) ?_)
      refine kjZ_y rfl rfl 3 _ _ _ _ ty1 ?_
      refine And.intro (fun c1 => ?_) (fun c1 => ?_)
      rotate_left
      · exact absurd (Int32.le_of_lt (Int32.not_le.mp c)) c1
      refine kjZ_y rfl rfl 1 _ _ _ _ ty1 ?_
      refine And.intro rfl (And.intro rfl ?_)
      exact ⟨rfl, w1, s1⟩
    refine kjZ_y rfl rfl 6 _ _ _ _ ty ?_
    refine (And.intro (ty.k (by decide) rfl) (And.intro (ty.k (by decide) rfl) (Exists.intro _ (And.intro eb (And.intro (ty.k (by decide) rfl) (And.intro (fun c1 => ?_) (fun c1 => ?_)))))))
    · refine kjZ_y rfl rfl 1 _ _ _ _ ty ?_
      exact go _
    · refine kjZ_y rfl rfl 4 _ _ _ _ ty ?_
      exact go _
theorem zpF_at {P Q : List KC} {y : KC} {v : List Int32} (f2 : kyI (skA (P ++ y :: Q)) v = some P.length) (i N : Nat) {m p : Nat} (hm : m = min N y.2.2.2.2.2.2.2.2.2.2.length) (hp : (i = 93 ∧ p = y.2.2.2.2.2.2.2.2.2.2.length - m) ∨ ((¬ i = 93) ∧ p = 0)) : zpF (skA (P ++ y :: Q)) v i N = if m = 0 then none else some (stlA (skA (P ++ y :: Q)) P.length (fun es => cutL es p m)) := by
  have hml : m ≤ y.2.2.2.2.2.2.2.2.2.2.length := by rw [hm]; exact Nat.min_le_right _ _
  have z1 : popE (if i = 93 then 42 else 41) m y.2.2.2.2.2.2.2.2.2.2 = cutL y.2.2.2.2.2.2.2.2.2.2 p m := by
    rcases hp with ⟨h1, h2⟩ | ⟨h1, h2⟩
    · rw [if_pos h1, popE_42, h2]; unfold cutL
      rw [List.drop_eq_nil_of_le (by omega), List.append_nil]
    · rw [if_neg h1, popE_no (by decide), h2]; unfold cutL
      rw [Nat.zero_add]; rfl
  unfold zpF; rw [f2]
  show (match (skA (P ++ y :: Q))[P.length]? with | some a => _ | none => _) = _
  rw [skA_at]
  show (if min N y.2.2.2.2.2.2.2.2.2.2.length = 0 then none else some (stlA _ _ (popE _ (min N y.2.2.2.2.2.2.2.2.2.2.length)))) = _
  rw [← hm]
  by_cases c : m = 0
  · rw [if_pos c, if_pos c]
  · rw [if_neg c, if_neg c]
    unfold stlA
    rw [skA_at]
    show some (if popE _ m y.2.2.2.2.2.2.2.2.2.2 = [] then _ else upA _ _ (esF (popE _ m))) = some (if cutL y.2.2.2.2.2.2.2.2.2.2 p m = [] then _ else upA _ _ (esF (fun es => cutL es p m)))
    rw [z1]
    have e2 : ∀ f g : AK → AK, f y.2.2.2.2.2 = g y.2.2.2.2.2 → upA (skA (P ++ y :: Q)) P.length f = upA (skA (P ++ y :: Q)) P.length g := by
      intro f g h
      rw [skA_app, skA_cons, ← skA_len P, upA_at, upA_at, h]
    rw [e2 (esF (popE _ m)) (esF (fun es => cutL es p m))]
    show (_, _, _, _, _, popE _ m y.2.2.2.2.2.2.2.2.2.2) = (_, _, _, _, _, cutL _ p m)
    rw [z1]
theorem kx_zpop (ty : kTY σ) (w : KWd σ0 B σ ws nm ks) (hr : RSD ks) (hB : BOK B ws) {j : Nat} (hj : CMD σ j) {v : List Int32} (hv : ws[1]? = some v) (hS : ∀ x ∈ ks, x.2.2.2.2.2.2.1 = 4 → ZP x.2.2.2.2.2.2.2.2.2.2) (i1 : Nat) (x1 : Int32) (e1 : x1 = if i1 = 93 then 1 else 0) {o : Option (List AK)} (ho0 : poN ws = none → o = none) (ho1 : ∀ N, poN ws = some N → N < 0 → o = none) (ho2 : rfZ (σ.1 59 17) ks j v 4 → o = none) (ho3 : ∀ N, poN ws = some N → ¬ N < 0 → ¬ rfZ (σ.1 59 17) ks j v 4 → o = zpF (skA ks) v i1 N.toInt.toNat) :
    kjY kPP (kQQ Y) (d + 8) 257 0 (mjL0 6 [.ref 75, .int x1]) [] σ (cdP σ0 B σ ws nm ks o) := by
  have hlen := (List.getElem?_eq_some_iff.mp hv).1
  obtain ⟨-, -, -, -, ⟨h4, h1024⟩, -⟩ := w.2.2.2.1
  have hx1 : x1 = 0 ↔ ¬ i1 = 93 := by
    rw [e1]
    by_cases c : i1 = 93
    · rw [if_pos c]; exact ⟨fun z => absurd z (by decide), fun z => absurd c z⟩
    · rw [if_neg c]; exact ⟨fun _ => c, fun _ => rfl⟩
  have s15 : ∀ (z : kS) (N : Int64), kTY z → KWd σ0 B z ws nm ks → SCl scB σ z → z.2.1 53 9 = N → poN ws = some N → kjY kPP (kQQ Y) (d + 8) 257 15 [some (.ref 75), some (.int x1), none, none, none, none] [] z (cdP σ0 B σ ws nm ks o) := by
    intro z N tz wz sz e9 hN
    have hH := sz.sub scHB
    refine kjZ_y rfl rfl 6 _ _ _ _ tz ?_
    refine (And.intro (tz.k (by decide) rfl) (And.intro (tz.k (by decide) rfl) (And.intro (fun c => ?_) (fun c => ?_))))
    rotate_left
    · have c : N < 0 := by
        rw [← e9]; exact Int64.not_le.mp (fun q => c ((lg_cmp_ge _ _).mpr q))
      refine kjZ_y rfl rfl 4 _ _ _ _ tz ?_
      refine (And.intro (tz.k (by decide) rfl) (And.intro rfl (And.intro (Nat.le_of_ble_eq_true rfl) (And.intro (Or.inl ⟨(Nat.le_of_ble_eq_true rfl), (tz.k (by decide) rfl)⟩) (And.intro (Nat.le_of_ble_eq_true rfl) (And.intro (Nat.le_of_ble_eq_true rfl) (kjY_mono tz (fun q_ u1 ty1 xu1 h_ => ?_) (kx_refuse tz wz (i := 166) (by decide)))))))))
      obtain ⟨rfl, w1, s1⟩ := h_
      intro _ _
      refine kjZ_y rfl rfl 1 _ _ _ _ ty1 ?_
      refine And.intro rfl (And.intro rfl ?_)
      exact cd_no PRE.rf w1 hr (hH.tr s1.h) (ho1 N hN c)
    have c : ¬ N < 0 := by rw [← e9]; exact Int64.not_lt.mpr ((lg_cmp_ge _ _).mp c)
    obtain ⟨n1, hn1, en1⟩ := pk_lOf c
    refine kjZ_y rfl rfl 6 _ _ _ _ tz ?_
    refine (And.intro (tz.k (by decide) rfl) (And.intro (Nat.le_of_ble_eq_true rfl) (And.intro (Or.inl ⟨(Nat.le_of_ble_eq_true rfl), (tz.k (by decide) rfl)⟩) (And.intro (Nat.le_of_ble_eq_true rfl) (And.intro (Nat.le_of_ble_eq_true rfl) (kjY_mono tz (fun q_ u1 ty1 xu1 h_ => ?_) (kx_refuses tz wz hB (hj.sc hH) (a := 1) (b := 1) (by omega) (by omega) (s := 4) (by decide) _ _ _ rfl rfl rfl)))))))
    obtain ⟨nm1, p1, w1, s1, q⟩ := h_
    intro _ _
    rw [rf1 wz hv, (hH (59, 17) (by decide)).1] at q
    rcases q with ⟨rfl, q⟩ | ⟨rfl, q⟩
    · refine kjZ_y rfl rfl 1 _ _ _ _ ty1 ?_
      refine And.intro (fun c => ?_) (fun c => ?_)
      · exact absurd (show (1 : Int32) = 0 from c) (by decide)
      refine kjZ_y rfl rfl 1 _ _ _ _ ty1 ?_
      refine And.intro rfl (And.intro rfl ?_)
      exact cd_no p1 w1 hr (hH.tr s1.h) (ho2 q)
    have ho := ho3 N hN c q
    have ho : o = zpF (skA ks) v i1 n1 := by rw [ho, en1, pk_lT hn1]; rfl
    have hso := fun z => q (Or.inr z)
    refine kjZ_y rfl rfl 1 _ _ _ _ ty1 ?_
    refine And.intro (fun c => ?_) (fun c => ?_)
    rotate_left
    · exact absurd rfl c
    refine kjZ_y rfl rfl 4 _ _ _ _ ty1 ?_
    refine (And.intro (ty1.k (by decide) rfl) (And.intro (Nat.le_of_ble_eq_true rfl) (And.intro (Or.inl ⟨(Nat.le_of_ble_eq_true rfl), (ty1.k (by decide) rfl)⟩) (And.intro (Nat.le_of_ble_eq_true rfl) (And.intro (Nat.le_of_ble_eq_true rfl) (kjY_mono ty1 (fun q_ u2 ty2 xu2 h_ => ?_) (kx_id ty1 w1 hB hv _ rfl)))))))
    obtain ⟨k, nm2, rfl, p2, p3, w2, s2⟩ := h_
    intro _ _
    refine kjZ_y rfl rfl 5 _ _ _ _ ty2 ?_
    refine (And.intro (Nat.le_of_ble_eq_true rfl) (And.intro (ty2.k (by decide) rfl) (And.intro (Nat.le_of_ble_eq_true rfl) (And.intro (Or.inl ⟨(Nat.le_of_ble_eq_true rfl), (ty2.k (by decide) rfl)⟩) (And.intro (Nat.le_of_ble_eq_true rfl) (And.intro (Nat.le_of_ble_eq_true rfl) (kjY_mono ty2 (fun q_ u3 ty3 xu3 h_ => ?_) (kx_find ty2 w2 p2 _ rfl))))))))
    obtain ⟨rfl, q3⟩ := h_
    intro _ _
    have sH := hH.tr (s1.tr s2).h
    have pA := p1.tr p3
    have e53 : u3.2.1 53 9 = N := ((s1.tr s2) (53, 9) (by decide)).2.1.trans e9
    rcases q3 with ⟨rfl, q3⟩ | ⟨P, y, Q, rfl, f0, f1, f2⟩
    · have hoo : o = none := by rw [ho]; unfold zpF; rw [q3]
      refine kjZ_y rfl rfl 12 _ _ _ _ ty3 ?_
      refine (And.intro (Nat.le_of_ble_eq_true rfl) (And.intro (Nat.le_of_ble_eq_true rfl) (And.intro (ty3.k (by decide) rfl) (And.intro (ty3.k (by decide) rfl) (And.intro (Nat.le_of_ble_eq_true rfl) (And.intro (Nat.le_of_ble_eq_true rfl) (And.intro (Nat.le_of_ble_eq_true rfl) (kjY_mono ty3 (fun q_ u4 ty4 xu4 h_ => ?_) (k_minL ty3 _ _)))))))))
      obtain ⟨rfl, rfl⟩ := h_
      intro _ _
      generalize (if (Int32.ofInt 0).toInt64 < u4.2.1 (kT 257).snd.fst (105 % 32) then (Int32.ofInt 0).toInt64 else u4.2.1 (kT 257).snd.fst (105 % 32)) = mn
      refine kjZ_y rfl rfl 5 _ _ _ _ ty4 ?_
      refine (And.intro (Nat.le_of_ble_eq_true rfl) (And.intro (ty4.k (by decide) rfl) (And.intro (Or.inr ⟨rfl, Or.inr rfl⟩) (fun ty4' => ?_))))
      have go : ∀ z5, kTY z5 → z5 = (mjIu u4.1 75 5 (Int32.ofInt 1), u4.2) → kjY kPP (kQQ Y) (d + 8) 257 62 [some (.ref 75), some (.int x1), some (.int (nI k)), some .null, some (.int (Int32.ofInt 0)), some (.int mn.toInt32)] [] z5 (cdP σ0 B σ ws nm ks o) := by
        intro z5 t5 e5
        have w5 : KWd σ0 B z5 ws nm2 ks := by rw [e5]; exact w2.pi ty4 (by decide)
        have s5 : SCl scH u4 z5 := by rw [e5]; exact SCl.i (by decide +kernel)
        have go2 : ∀ x : Int32, kjY kPP (kQQ Y) (d + 8) 257 71 [some (.ref 75), some (.int x1), some (.int (nI k)), some .null, some (.int (Int32.ofInt 0)), some (.int mn.toInt32)] [.int x, .null, .ref 75] z5 (cdP σ0 B σ ws nm ks o) := by
          intro x
          refine kjZ_y rfl rfl 3 _ _ _ _ t5 ?_
          refine (And.intro (Nat.le_of_ble_eq_true rfl) (And.intro (Or.inl ⟨(Nat.le_of_ble_eq_true rfl), (t5.k (by decide) rfl)⟩) (And.intro (Nat.le_of_ble_eq_true rfl) (And.intro (Nat.le_of_ble_eq_true rfl) (kjY_mono t5 (fun q_ u6 ty6 xu6 h_ => ?_) (kx_tellLine0 (d := d) t5 w5 _ _ _))))))
          obtain ⟨rfl, w6, s6⟩ := h_
          intro _ _
          have fin : ∀ x : Int32, kjY kPP (kQQ Y) (d + 8) 257 84 [some (.ref 75), some (.int x1), some (.int (nI k)), some .null, some (.int (Int32.ofInt 0)), some (.int mn.toInt32)] [.int x, .null, .int (nI k), .ref 75] u6 (cdP σ0 B σ ws nm ks o) := by
            intro x
            have end_ : ∀ x' : Int32, kjY kPP (kQQ Y) (d + 8) 257 89 [some (.ref 75), some (.int x1), some (.int (nI k)), some .null, some (.int (Int32.ofInt 0)), some (.int mn.toInt32)] [.int x', .int x, .null, .int (nI k), .ref 75] u6 (cdP σ0 B σ ws nm ks o) := by
              intro x'
              refine kjZ_y rfl rfl 1 _ _ _ _ ty6 ?_
              refine (And.intro (Nat.le_of_ble_eq_true rfl) (And.intro (Or.inl ⟨(Nat.le_of_ble_eq_true rfl), (ty6.k (by decide) rfl)⟩) (And.intro (Nat.le_of_ble_eq_true rfl) (And.intro (Nat.le_of_ble_eq_true rfl) (kjY_mono ty6 (fun q_ u7 ty7 xu7 h_ => ?_) (kx_rmLine0 ty6 _ _ _))))))
              obtain ⟨rfl, rfl⟩ := h_
              intro _ _
              refine kjZ_y rfl rfl 1 _ _ _ _ ty7 ?_
              refine And.intro rfl (And.intro rfl ?_)
              exact cd_no pA w6 hr ((sH.tr s5).tr s6.h) hoo
            refine kjZ_y rfl rfl 2 _ _ _ _ ty6 ?_
            refine And.intro (fun c5 => ?_) (fun c5 => ?_)
            · refine kjZ_y rfl rfl 1 _ _ _ _ ty6 ?_
              exact end_ _
            · refine kjZ_y rfl rfl 2 _ _ _ _ ty6 ?_
              exact end_ _
          refine kjZ_y rfl rfl 5 _ _ _ _ ty6 ?_
          refine And.intro (fun c4 => ?_) (fun c4 => ?_)
          · refine kjZ_y rfl rfl 1 _ _ _ _ ty6 ?_
            exact fin _
          · refine kjZ_y rfl rfl 4 _ _ _ _ ty6 ?_
            exact fin _
        refine kjZ_y rfl rfl 4 _ _ _ _ t5 ?_
        refine And.intro (fun c4 => ?_) (fun c4 => ?_)
        · refine kjZ_y rfl rfl 1 _ _ _ _ t5 ?_
          exact go2 _
        · refine kjZ_y rfl rfl 4 _ _ _ _ t5 ?_
          exact go2 _
      exact go _ ty4' rfl
    · subst f0
      have hs4 : y.2.2.2.2.2.2.1 = 4 := so_1 (s := 4) f2 hso
      have hs0 : ¬ y.2.2.2.2.2.2.1 = 0 := by rw [hs4]; decide
      obtain ⟨z1, z2, kv⟩ := w2.sz hs0
      have hZ := hS y (List.mem_append_right _ List.mem_cons_self) hs4
      have em : (if (u3.1 y.1 6).toInt64 < u3.2.1 53 9 then (u3.1 y.1 6).toInt64 else u3.2.1 53 9).toInt32 = nI (min n1 y.2.2.2.2.2.2.2.2.2.2.length) := by
        rw [z1, nI_64 (by omega), e53, en1]
        by_cases c6 : lN y.2.2.2.2.2.2.2.2.2.2.length < lN n1
        · rw [if_pos c6, lN_32 (by omega)]
          have := Int64.lt_iff_toInt_lt.mp c6
          rw [pk_lT (by omega), pk_lT hn1] at this
          rw [Nat.min_eq_right (by omega)]
        · rw [if_neg c6]
          have : ¬ (y.2.2.2.2.2.2.2.2.2.2.length : Int) < n1 := fun z => c6 (by rw [Int64.lt_iff_toInt_lt, pk_lT (by omega), pk_lT hn1]; exact z)
          rw [lN_32 (by omega), Nat.min_eq_left (by omega)]
      have ml : min n1 y.2.2.2.2.2.2.2.2.2.2.length ≤ y.2.2.2.2.2.2.2.2.2.2.length := Nat.min_le_right _ _
      have hop : ∀ p, ((i1 = 93 ∧ p = y.2.2.2.2.2.2.2.2.2.2.length - min n1 y.2.2.2.2.2.2.2.2.2.2.length) ∨ ((¬ i1 = 93) ∧ p = 0)) → o = if min n1 y.2.2.2.2.2.2.2.2.2.2.length = 0 then none else some (stlA (skA (P ++ y :: Q)) P.length (fun es => cutL es p (min n1 y.2.2.2.2.2.2.2.2.2.2.length))) := fun p hp => by rw [ho]; exact zpF_at f2 i1 n1 rfl hp
      generalize min n1 y.2.2.2.2.2.2.2.2.2.2.length = m at em ml hop
      have s51 : ∀ x4 : Int32, x4 = u3.1 y.1 6 → kjY kPP (kQQ Y) (d + 8) 257 51 [some (.ref 75), some (.int x1), some (.int (nI k)), some (.ref y.1), some (.int x4), none] [] u3 (cdP σ0 B σ ws nm (P ++ y :: Q) o) := by
        intro x4 e4
        have e4' := e4.trans z1
        refine kjZ_y rfl rfl 6 _ _ _ _ ty3 ?_
        refine (And.intro (ty3.k (by decide) rfl) (And.intro (ty3.k (by decide) rfl) (And.intro (Nat.le_of_ble_eq_true rfl) (And.intro (Nat.le_of_ble_eq_true rfl) (And.intro (Nat.le_of_ble_eq_true rfl) (kjY_mono ty3 (fun q_ u4 ty4 xu4 h_ => ?_) (k_minL ty3 _ _)))))))
        obtain ⟨rfl, rfl⟩ := h_
        intro _ _
        obtain ⟨x5, e5⟩ : ∃ x5, x5 = nI m := ⟨_, rfl⟩
        have em : (if x4.toInt64 < u4.2.1 53 9 then x4.toInt64 else u4.2.1 53 9).toInt32 = x5 := by rw [e4, em, e5]
        refine kjZ_y rfl rfl 5 _ _ _ _ ty4 ?_
        refine (And.intro (Nat.le_of_ble_eq_true rfl) (And.intro (ty4.k (by decide) rfl) (And.intro (Or.inr ⟨rfl, Or.inr rfl⟩) (fun ty4' => ?_))))
        have go : ∀ z5, kTY z5 → z5 = (mjIu u4.1 75 5 (Int32.ofInt 1), u4.2) → kjY kPP (kQQ Y) (d + 8) 257 62 [some (.ref 75), some (.int x1), some (.int (nI k)), some (.ref y.1), some (.int x4), some (.int x5)] [] z5 (cdP σ0 B σ ws nm (P ++ y :: Q) o) := by
          intro z5 t5 e6
          have w5 : KWd σ0 B z5 ws nm2 (P ++ y :: Q) := by rw [e6]; exact w2.pi ty4 (by decide)
          have s5 : SCl scH u4 z5 := by rw [e6]; exact SCl.i (by decide +kernel)
          have kv5 := (w5.sz hs0).2.2
          have go2 : ∀ x : Int32, kjY kPP (kQQ Y) (d + 8) 257 71 [some (.ref 75), some (.int x1), some (.int (nI k)), some (.ref y.1), some (.int x4), some (.int x5)] [.int x, .ref y.1, .ref 75] z5 (cdP σ0 B σ ws nm (P ++ y :: Q) o) := by
            intro x
            refine kjZ_y rfl rfl 3 _ _ _ _ t5 ?_
            refine (And.intro (Nat.le_of_ble_eq_true rfl) (And.intro (Or.inl ⟨(Nat.le_of_ble_eq_true rfl), (t5.k (by decide) rfl)⟩) (And.intro (Nat.le_of_ble_eq_true rfl) (And.intro (Nat.le_of_ble_eq_true rfl) (kjY_mono t5 (fun q_ u6 ty6 xu6 h_ => ?_) (kx_tellLine (d := d) t5 w5 hs0 (n := m) (by omega) _ _ _ e5))))))
            obtain ⟨rfl, w6, s6⟩ := h_
            intro _ _
            have kv6 := (w6.sz hs0).2.2
            have sH6 : SCl scH σ u6 := (sH.tr s5).tr s6.h
            -- what goes
            have fin : ∀ (p q : Nat) (x x' : Int32), x = nI p → x' = nI q → q = p + m → q ≤ y.2.2.2.2.2.2.2.2.2.2.length → ((i1 = 93 ∧ p = y.2.2.2.2.2.2.2.2.2.2.length - m) ∨ ((¬ i1 = 93) ∧ p = 0)) → kjY kPP (kQQ Y) (d + 8) 257 89 [some (.ref 75), some (.int x1), some (.int (nI k)), some (.ref y.1), some (.int x4), some (.int x5)] [.int x', .int x, .ref y.1, .int (nI k), .ref 75] u6 (cdP σ0 B σ ws nm (P ++ y :: Q) o) := by
              intro p q x x' ex ex' hq hql hpp
              have hoo := hop p hpp
              by_cases c9 : m = 0
              · rw [if_pos c9] at hoo
                refine kjZ_y rfl rfl 1 _ _ _ _ ty6 ?_
                refine (And.intro (Nat.le_of_ble_eq_true rfl) (And.intro (Or.inl ⟨(Nat.le_of_ble_eq_true rfl), (ty6.k (by decide) rfl)⟩) (And.intro (Nat.le_of_ble_eq_true rfl) (And.intro (Nat.le_of_ble_eq_true rfl) (kjY_mono ty6 (fun q_ u7 ty7 xu7 h_ => ?_) (kx_rmLineN ty6 w6 hs4 _ _ _ (by rw [ex, ex', nlt (by omega) (by omega)]; omega)))))))
                obtain ⟨rfl, rfl⟩ := h_
                intro _ _
                refine kjZ_y rfl rfl 1 _ _ _ _ ty7 ?_
                refine And.intro rfl (And.intro rfl ?_)
                exact cd_no pA w6 hr sH6 hoo
              · rw [if_neg c9] at hoo
                refine kjZ_y rfl rfl 1 _ _ _ _ ty6 ?_
                refine (And.intro (Nat.le_of_ble_eq_true rfl) (And.intro (Or.inl ⟨(Nat.le_of_ble_eq_true rfl), (ty6.k (by decide) rfl)⟩) (And.intro (Nat.le_of_ble_eq_true rfl) (And.intro (Nat.le_of_ble_eq_true rfl) (kjY_mono ty6 (fun q_ u7 ty7 xu7 h_ => ?_) (kx_rmLine (d := d + 3) ty6 w6 hr hs4 hZ (k := k) (by rw [f1]; exact p2) (a := p) (b := q) (by omega) hql _ _ _ rfl ex ex'))))))
                obtain ⟨rfl, nmA, ksA, pA5, wA, rA, eA, cA, sA5⟩ := h_
                intro _ _
                refine kjZ_y rfl rfl 1 _ _ _ _ ty7 ?_
                refine And.intro rfl (And.intro rfl ?_)
                refine cd_ok (pA.tr pA5) wA rA eA cA ((sH6.sub scGH).tr sA5) ?_
                rw [hoo, show q - p = m by omega]
            refine kjZ_y rfl rfl 5 _ _ _ _ ty6 ?_
            refine And.intro (fun c4 => ?_) (fun c4 => ?_)
            · refine kjZ_y rfl rfl 1 _ _ _ _ ty6 ?_
              refine kjZ_y rfl rfl 2 _ _ _ _ ty6 ?_
              refine And.intro (fun c5 => ?_) (fun c5 => ?_)
              rotate_left
              · exact absurd c4 c5
              refine kjZ_y rfl rfl 1 _ _ _ _ ty6 ?_
              exact fin 0 m _ _ rfl e5 (by omega) ml (Or.inr ⟨hx1.mp c4, rfl⟩)
            · refine kjZ_y rfl rfl 4 _ _ _ _ ty6 ?_
              refine kjZ_y rfl rfl 2 _ _ _ _ ty6 ?_
              refine And.intro (fun c5 => ?_) (fun c5 => ?_)
              · exact absurd c5 c4
              refine kjZ_y rfl rfl 2 _ _ _ _ ty6 ?_
              refine fin (y.2.2.2.2.2.2.2.2.2.2.length - m) y.2.2.2.2.2.2.2.2.2.2.length _ _ ?_ e4' (by omega) (Nat.le_refl _) (Or.inl ⟨?_, rfl⟩)
              · rw [e4', e5]; exact pk_sub ml
              · by_cases c8 : i1 = 93
                · exact c8
                · exact absurd (hx1.mpr c8) c4
          refine kjZ_y rfl rfl 4 _ _ _ _ t5 ?_
          refine And.intro (fun c4 => ?_) (fun c4 => ?_)
          · refine kjZ_y rfl rfl 1 _ _ _ _ t5 ?_
            exact go2 _
          · refine kjZ_y rfl rfl 4 _ _ _ _ t5 ?_
            exact go2 _
        rw [show (if x4.toInt64 < u4.2.1 (kT 257).snd.fst (105 % 32) then x4.toInt64 else u4.2.1 (kT 257).snd.fst (105 % 32)).toInt32 = x5 from em]
        exact go _ ty4' rfl
      refine kjZ_y rfl rfl 6 _ _ _ _ ty3 ?_
      refine (And.intro (Nat.le_of_ble_eq_true rfl) (And.intro (by assumption) (And.intro (Nat.le_of_ble_eq_true rfl) ?_)))
      exact s51 _ rfl
  refine kjZ_y rfl rfl 4 _ _ _ _ ty ?_
  refine (And.intro (ty.k (by decide) rfl) (And.intro (ty.k (by decide) rfl) (And.intro rfl (fun ty' => ?_))))
  have go : ∀ z, kTY z → z = (σ.1, mjLu σ.2.1 53 9 (Int64.ofNat 1), σ.2.2) → kjY kPP (kQQ Y) (d + 8) 257 4 [some (.ref 75), some (.int x1), none, none, none, none] [] z (cdP σ0 B σ ws nm ks o) := by
    intro z tz ez
    have wz : KWd σ0 B z ws nm ks := by rw [ez]; exact w.pl ty (by decide)
    have sz : SCl scB σ z := by rw [ez]; exact SCl.l (by decide +kernel)
    have z4 : z.1 53 4 = nI ws.length := by rw [ez]; exact h4
    refine kjZ_y rfl rfl 5 _ _ _ _ tz ?_
    refine (And.intro (tz.k (by decide) rfl) (And.intro (tz.k (by decide) rfl) (And.intro (fun c => ?_) (fun c => ?_))))
    · have c : z.1 53 4 ≤ nI 2 := c
      rw [z4, nle (by omega) (by omega)] at c
      refine s15 z 1 tz wz sz ?_ (by unfold poN; rw [if_neg (by omega)])
      rw [ez]; show mjLu σ.2.1 53 9 (Int64.ofNat 1) 53 9 = 1; rw [mjLu_p]; rfl
    have c : ¬ z.1 53 4 ≤ nI 2 := c
    rw [z4, nle (by omega) (by omega)] at c
    have h2 : 2 < ws.length := by omega
    have hv2 : ws[2]? = some (ws.getD 2 []) := by rw [List.getD_eq_getElem?_getD, List.getElem?_eq_getElem h2]; rfl
    refine kjZ_y rfl rfl 4 _ _ _ _ tz ?_
    refine (And.intro (tz.k (by decide) rfl) (And.intro (Nat.le_of_ble_eq_true rfl) (And.intro (Or.inl ⟨(Nat.le_of_ble_eq_true rfl), (tz.k (by decide) rfl)⟩) (And.intro (Nat.le_of_ble_eq_true rfl) (And.intro (Nat.le_of_ble_eq_true rfl) (kjY_mono tz (fun q_ u1 ty1 xu1 h_ => ?_) (kx_lacksInteger tz wz hv2 _ rfl)))))))
    obtain ⟨w1, s1, q⟩ := h_
    intro _ _
    rcases q with ⟨N, q1, rfl, q2⟩ | ⟨q1, rfl⟩
    · refine kjZ_y rfl rfl 1 _ _ _ _ ty1 ?_
      refine And.intro (fun c2 => ?_) (fun c2 => ?_)
      rotate_left
      · exact absurd rfl c2
      exact s15 u1 N ty1 w1 (sz.tr s1) q2 (by unfold poN; rw [if_pos h2]; exact q1)
    · refine kjZ_y rfl rfl 1 _ _ _ _ ty1 ?_
      refine And.intro (fun c2 => ?_) (fun c2 => ?_)
      · exact absurd (show (1 : Int32) = 0 from c2) (by decide)
      refine kjZ_y rfl rfl 1 _ _ _ _ ty1 ?_
      refine And.intro rfl (And.intro rfl ?_)
      exact cd_no PRE.rf w1 hr ((sz.tr s1).sub scHB) (ho0 (by unfold poN; rw [if_pos h2]; exact q1))
  exact go _ ty' rfl
end KZPOP
