/-! A text is stretched, bytes come over it. -/
def txG (g : List Int32 → List Int32) (a : AK) : AK := (a.1, a.2.1, a.2.2.1, a.2.2.2.1, g a.2.2.2.2.1, a.2.2.2.2.2)
def stT (m : Nat) (t : List Int32) : List Int32 := t.take m ++ List.replicate (m - t.length) 0
theorem stT_len (m : Nat) (t : List Int32) : (stT m t).length = m := by
  unfold stT; rw [List.length_append, List.length_take, List.length_replicate]; omega
theorem wd_zero {f : Nat → Int32} {a : Nat} : ∀ n, (∀ x, a ≤ x → x < a + n → f x = 0) → wd f a n = List.replicate n 0 := by
  intro n
  induction n generalizing a with
  | zero => intro _; rfl
  | succ n ih =>
    intro h
    rw [wd_s, List.replicate_succ, h a (Nat.le_refl _) (by omega), ih (fun x h1 h2 => h x (by omega) (by omega))]
section KSTR2
variable {Y : Nat → MethodName × ByteArray} {d : Nat} {σ0 σ u : kS} {B ws nm nm' : List (List Int32)} {ks : List KC}
/-- a text, opened in its world -/
theorem KWd.tx (ty : kTY σ) {P Q : List KC} {y : KC} (w : KWd σ0 B σ ws nm (P ++ y :: Q)) (hs : y.2.2.2.2.2.2.1 = 0) : ∃ rt NT st ro, (σ.2.2.1 59 7 = some rt ∧ σ.2.2.2.1 rt = (21, NT) ∧ NT ≤ 131072) ∧ (σ.2.2.2.1 y.1 = (11, 0) ∧ σ.1 y.1 6 = nI y.2.2.2.2.2.2.2.2.2.1.length ∧ σ.1 y.1 7 = nI st ∧ σ.1 y.1 8 = nI ro) ∧ (y.2.2.2.2.2.2.2.2.2.1.length ≤ ro ∧ ro ≤ 16384 ∧ st + ro ≤ NT ∧ wd (σ.1 rt) st y.2.2.2.2.2.2.2.2.2.1.length = y.2.2.2.2.2.2.2.2.2.1) ∧ (¬ rt = y.1 ∧ ¬ rt = 59) ∧
    ∀ (u : kS) (t' : List Int32), t'.length ≤ ro → u.2 = σ.2 → (∀ h x, ¬ (h = y.1 ∧ (x = 4 ∨ x = 6)) → ¬ (h = rt ∧ st ≤ x ∧ x < st + ro) → u.1 h x = σ.1 h x) → u.1 y.1 4 = nI t'.length → u.1 y.1 6 = nI t'.length → wd (u.1 rt) st t'.length = t' → KWd σ0 B u ws nm (P ++ mkK y (txG (fun _ => t') y.2.2.2.2.2) :: Q) ∧ SCl scA σ u := by
  obtain ⟨fr, vs, k0, n0, e0, t0, cs0, hR, hV, a1, hav, hd, ht, s6, hn6, s4⟩ := w.op_
  obtain ⟨b1, b2, b3, b4, b5, b6⟩ := hav
  have b1 : y.2.2.2.2.2.2.1 = nI k0 := b1
  have b2' : k0 ≤ 4 := b2
  have hk0 : k0 = 0 := (nI_eq (b := 0) (by omega) (by decide)).mp (b1.symm.trans hs)
  subst hk0
  have b4 : t0 = y.2.2.2.2.2.2.2.2.2.1 := b4
  have b5 : n0 = y.2.2.2.2.2.2.2.2.2.1.length := b5
  obtain ⟨rt, NT, st, ro, f1, ⟨v1, v6, v7, v8, v4⟩, ⟨n1, n2, n3, n4, n5⟩, f4, close⟩ := hR.tx ty w.2.1.1 w.2.1.2 a1
  refine ⟨rt, NT, st, ro, f1, ⟨v1, by rw [← b5]; exact v6, v7, v8⟩, ⟨by rw [← b5]; exact n1, n2, n3, by rw [← b5, ← b4]; exact n5⟩, f4, ?_⟩
  intro u t' h1 h2 h3 h4 h6 h7
  obtain ⟨m1, m2, m3, m4⟩ := close u t'.length (nI t'.length) t' h1 h2 h3 h4 h6 h7
  obtain ⟨q1, q2⟩ := w.k0.sto ty m4 (by decide) (by decide) m2 m3
  have hw : wtC (txG (fun _ => t') y.2.2.2.2.2) = t'.length := by
    unfold wtC txG; show (if y.2.2.2.2.2.2.1 = 0 then t'.length else _) = _; rw [if_pos hs]
  refine ⟨q1.cl hV hR.nd (k := 0) (n := t'.length) (e := e0) (t := t') (cs := cs0) rfl ⟨b1, b2, b3, rfl, rfl, b6⟩ rfl ?_, q2⟩
  rw [hw]; exact m1
theorem kx_stretch (ty : kTY σ) {P Q : List KC} {y : KC} (w : KWd σ0 B σ ws nm (P ++ y :: Q)) (hs : y.2.2.2.2.2.2.1 = 0) {m : Nat} (hm : m ≤ 16384) (hcap : xtA (skA (P ++ y :: Q)) + 16384 ≤ 98304) (x2 : Int32) (e2 : x2 = nI m) :
    kjY kPP (kQQ Y) (d + 3) 166 0 (mjL0 4 [.ref 67, .ref y.1, .int x2]) [] σ (wP σ0 B σ ws nm (P ++ mkK y (txG (stT m) y.2.2.2.2.2) :: Q)) := by
  obtain ⟨fr, vs, k0, n0, e0, t0, cs0, hR, hV, a1, hav, hd, ht, s6, hn6, s4⟩ := w.op_
  have b1 : y.2.2.2.2.2.2.1 = nI k0 := hav.1
  have b2' : k0 ≤ 4 := hav.2.1
  have hk0 : k0 = 0 := (nI_eq (b := 0) (by omega) (by decide)).mp (b1.symm.trans hs)
  subst hk0
  have hms := STO.ms hR hV
  have kv : (σ.2.2.2.1 y.1).1 = 11 := by rw [hd]
  refine kjZ_y rfl rfl 5 _ _ _ _ ty ?_
  refine (And.intro (ty.k (by decide) rfl) (And.intro (Nat.le_of_ble_eq_true rfl) (And.intro (Or.inl ⟨(Nat.le_of_ble_eq_true rfl), (ty.k (by decide) rfl)⟩) (And.intro (Nat.le_of_ble_eq_true rfl) (And.intro (Nat.le_of_ble_eq_true rfl) (kjY_mono ty (fun q_ u1 ty1 xu1 h_ => ?_) (k_growText ty w.2.1.1 w.2.1.2 hR a1 (hav.2.2.2.2.2.1 rfl).2 hm (by rw [hms.1]; exact hcap) _ e2)))))))
  obtain ⟨rfl, r1, ⟨ρ, g1, g2, g3⟩, o1, p1, c1⟩ := h_
  intro _ _
  have kv1 : (u1.2.2.2.1 y.1).1 = 11 := xu1.k ty kv (by decide)
  obtain ⟨q1, q2⟩ := w.k0.sto ty c1 (by decide) (by decide) o1 p1
  have w1 : KWd σ0 B u1 ws nm (P ++ y :: Q) := q1.mk ⟨fr, vs, r1, hV⟩
  obtain ⟨rt, NT, st, ro, ⟨f1, f2, f3⟩, ⟨v1, v6, v7, v8⟩, ⟨n1, n2, n3, n5⟩, ⟨nn1, nn2⟩, close⟩ := w1.tx ty1 hs
  have hro : ρ = ro := (nI_eq (by omega) (by omega)).mp (g1.symm.trans v8)
  subst hro
  refine kjZ_y rfl rfl 4 _ _ _ _ ty1 ?_
  refine (And.intro (by assumption) (And.intro (Nat.le_of_ble_eq_true rfl) (And.intro (Nat.le_of_ble_eq_true rfl) (And.intro (Nat.le_of_ble_eq_true rfl) (kjY_mono ty1 (fun q_ u2 ty2 xu2 h_ => ?_) (k_min ty1 _ _))))))
  obtain ⟨rfl, rfl⟩ := h_
  intro _ _
  have em : (if u2.1 y.1 8 < x2 then u2.1 y.1 8 else x2) = nI m := by
    rw [if_neg (by rw [g1, e2, nlt (by omega) (by omega)]; omega)]; exact e2
  generalize ht0 : y.2.2.2.2.2.2.2.2.2.1 = t at *
  have go28 : ∀ (z : kS) (x3 : Int32), x3 = nI m → kTY z → z.2 = u2.2 → (∀ h x, ¬ (h = rt ∧ st + t.length ≤ x ∧ x < st + m) → z.1 h x = u2.1 h x) → wd (z.1 rt) st m = stT m t → kjY kPP (kQQ Y) (d + 3) 166 28 [some (.ref 67), some (.ref y.1), some (.int x2), some (.int x3)] [] z (wP σ0 B σ ws nm (P ++ mkK y (txG (stT m) y.2.2.2.2.2) :: Q)) := by
    intro z x3 e3 tz hz2 hzo hzw
    have kvz : (z.2.2.2.1 y.1).1 = 11 := by rw [show z.2.2.2.1 = u2.2.2.2.1 from congrArg (fun t => t.2.2.1) hz2]; exact kv1
    refine kjZ_y rfl rfl 6 _ _ _ _ tz ?_
    refine (And.intro (by assumption) (And.intro (Or.inl rfl) (fun tz' => (And.intro (by assumption) (And.intro (Or.inl rfl) (fun tz'' => ?_))))))
    have go : ∀ zz, kTY zz → zz = (mjIu (mjIu z.1 y.1 6 x3) y.1 4 x3, z.2) → kjY kPP (kQQ Y) (d + 3) 166 34 [some (.ref 67), some (.ref y.1), some (.int x2), some (.int x3)] [] zz (wP σ0 B σ ws nm (P ++ mkK y (txG (stT m) y.2.2.2.2.2) :: Q)) := by
      intro zz tzz ez
      have eZ : ∀ h x, zz.1 h x = if h = y.1 ∧ x = 4 then x3 else if h = y.1 ∧ x = 6 then x3 else z.1 h x := by
        intro h x; rw [ez]; show mjIu (mjIu z.1 y.1 6 x3) y.1 4 x3 h x = _; rw [mjIu_at, mjIu_at]
      have hl := stT_len m t
      obtain ⟨k1, k2⟩ := close zz (stT m t) (by omega) (by rw [ez]; exact hz2) (fun h x z1 z2 => by
        rw [eZ, if_neg (fun q => z1 ⟨q.1, Or.inl q.2⟩), if_neg (fun q => z1 ⟨q.1, Or.inr q.2⟩)]
        exact hzo h x (fun q => z2 ⟨q.1, by omega, by omega⟩)) (by rw [eZ, if_pos ⟨rfl, rfl⟩, hl]; exact e3) (by rw [eZ, if_neg (fun q => absurd q.2 (by decide)), if_pos ⟨rfl, rfl⟩, hl]; exact e3) (by
        rw [hl, ← hzw]; exact wd_congr (fun k _ => by rw [eZ, if_neg (fun q => nn1 q.1), if_neg (fun q => nn1 q.1)]))
      refine kjZ_y rfl rfl 1 _ _ _ _ tzz ?_
      refine And.intro rfl (And.intro rfl ?_)
      refine ⟨rfl, ?_, q2.tr k2⟩
      have ek : mkK y (txG (fun _ => stT m t) y.2.2.2.2.2) = mkK y (txG (stT m) y.2.2.2.2.2) := by
        show mkK y (_, _, _, _, stT m t, _) = mkK y (_, _, _, _, stT m y.2.2.2.2.2.2.2.2.2.1, _)
        rw [ht0]
      rw [ek] at k1; exact k1
    exact go _ tz'' rfl
  refine kjZ_y rfl rfl 5 _ _ _ _ ty2 ?_
  refine (And.intro (Nat.le_of_ble_eq_true rfl) (And.intro (by assumption) (And.intro (fun c => ?_) (fun c => ?_))))
  · have c : (if u2.1 y.1 8 < x2 then u2.1 y.1 8 else x2) ≤ u2.1 y.1 6 := c
    rw [em, v6, nle (by omega) (by omega)] at c
    refine go28 u2 _ em ty2 rfl (fun _ _ _ => rfl) ?_
    rw [← wd_take n5 c]; unfold stT
    rw [Nat.sub_eq_zero_of_le c]; exact (List.append_nil _).symm
  · have c : ¬ (if u2.1 y.1 8 < x2 then u2.1 y.1 8 else x2) ≤ u2.1 y.1 6 := c
    rw [em, v6, nle (by omega) (by omega)] at c
    refine kjZ_y rfl rfl 14 _ _ _ _ ty2 ?_
    refine (And.intro (ty2.k (by decide) rfl) (And.intro (ty2.k (by decide) rfl) (Exists.intro _ (And.intro f1 (And.intro (by assumption) (And.intro (by assumption) (And.intro (by assumption) (And.intro (Nat.le_of_ble_eq_true rfl) (And.intro (Nat.le_of_ble_eq_true rfl) (And.intro (Nat.le_of_ble_eq_true rfl) (kjY_mono ty2 (fun q_ u3 ty3 xu3 h_ => ?_) (k_fill ty2 f2 (by omega) (a := st + t.length) (b := st + m) (by omega) (by omega) _ _ (show u2.1 y.1 7 + u2.1 y.1 6 = _ by rw [v7, v6, nI_add]) (show u2.1 y.1 7 + (if u2.1 y.1 8 < x2 then u2.1 y.1 8 else x2) = _ by rw [em, v7, nI_add])))))))))))))
    obtain ⟨rfl, k1, k2, k3⟩ := h_
    intro _ _
    refine go28 u3 _ em ty3 k1 k2 ?_
    have em2 : m = t.length + (m - t.length) := by omega
    rw [em2, wd_app, ← em2]
    unfold stT
    rw [List.take_of_length_le (by omega)]
    congr 1
    · rw [← n5, wd_len]
      exact wd_congr (fun k hk => k2 rt _ (fun q => by omega))
    · exact wd_zero _ (fun x h1 h2 => k3 x h1 (by omega))
def ovT (p : Nat) (v t : List Int32) : List Int32 := t.take p ++ v ++ t.drop (p + v.length)
theorem ovT_len {p : Nat} {v t : List Int32} (h : p + v.length ≤ t.length) : (ovT p v t).length = t.length := by
  unfold ovT; rw [List.length_append, List.length_append, List.length_take, List.length_drop]; omega
theorem wd_ovT {R W0 : Nat → Int32} {a st p : Nat} {t v : List Int32} (h1 : wd W0 st t.length = t) (h2 : wd R a v.length = v) (hm : p + v.length ≤ t.length) : wd (va_cpy R W0 a (st + p) v.length) st t.length = ovT p v t := by
  unfold ovT
  have e : t.length = p + (v.length + (t.length - (p + v.length))) := by omega
  rw [wd_take h1 (by omega), wd_drop h1 hm]
  conv => lhs; rw [e]
  rw [wd_app, wd_app, List.append_assoc]
  congr 1
  · exact wd_congr fun k hk => pk_cpy_out (by omega)
  · congr 1
    · refine Eq.trans (wd_congr fun k hk => ?_) h2
      rw [pk_cpy_in (by omega) (by omega)]; exact congrArg R (by omega)
    · rw [Nat.add_assoc]
      exact wd_congr fun k hk => pk_cpy_out (by omega)
theorem kx_overlay (ty : kTY σ) {P Q : List KC} {y : KC} (w : KWd σ0 B σ ws nm (P ++ y :: Q)) (hs : y.2.2.2.2.2.2.1 = 0) (hwk : wkO y) {g M a p : Nat} {v : List Int32} (kg : σ.2.2.2.1 g = (21, M)) (hM : M ≤ 600000) (hg : ¬ σ.2.2.1 59 7 = some g) (ha : a + v.length ≤ M) (hv : wd (σ.1 g) a v.length = v) (hp : p + v.length ≤ y.2.2.2.2.2.2.2.2.2.1.length) (x2 x4 x5 : Int32) (e2 : x2 = nI p) (e4 : x4 = nI a) (e5 : x5 = nI v.length) :
    kjY kPP (kQQ Y) (d + 1) 167 0 (mjL0 6 [.ref 67, .ref y.1, .int x2, .ref g, .int x4, .int x5]) [] σ (wP σ0 B σ ws nm (P ++ mkK y (txG (ovT p v) y.2.2.2.2.2) :: Q)) := by
  obtain ⟨-, -, -, -, -, -, -, -, -, -, -, -, -, -, -, s4⟩ := w.op_
  obtain ⟨rt, NT, st, ro, ⟨f1, f2, f3⟩, ⟨v1, v6, v7, v8⟩, ⟨n1, n2, n3, n5⟩, ⟨nn1, nn2⟩, close⟩ := w.tx ty hs
  have hgr : ¬ g = rt := fun z => hg (by rw [z]; exact f1)
  have kv : (σ.2.2.2.1 y.1).1 = 11 := by rw [v1]
  have hgv : ¬ g = y.1 := fun z => by rw [z, v1] at kg; cases kg
  have s4' : σ.1 y.1 4 = nI y.2.2.2.2.2.2.2.2.2.1.length := by
    rw [s4, hwk]; unfold wtC; rw [if_pos hs]
  refine kjZ_y rfl rfl 2 _ _ _ _ ty ?_
  refine And.intro (fun c => ?_) (fun c => ?_)
  · exact absurd (show x2 < 0 from c) (by rw [e2]; exact nI_n0 (by omega))
  refine kjZ_y rfl rfl 6 _ _ _ _ ty ?_
  refine (And.intro (by assumption) (And.intro (fun c => ?_) (fun c => ?_)))
  · refine absurd (show σ.1 y.1 6 - x2 < x5 from c) ?_
    rw [v6, e2, e5, pk_sub (by omega), nlt (by omega) (by omega)]; omega
  refine kjZ_y rfl rfl 2 _ _ _ _ ty ?_
  refine And.intro (fun c => ?_) (fun c => ?_)
  · exact absurd (show x4 < 0 from c) (by rw [e4]; exact nI_n0 (by omega))
  refine kjZ_y rfl rfl 6 _ _ _ _ ty ?_
  refine (Or.inl (And.intro (kdq kg) (And.intro (fun c => ?_) (fun c => ?_))))
  · refine absurd (show nI (σ.2.2.2.1 g).2 - x4 < x5 from c) ?_
    rw [kg, e4, e5, pk_sub (by omega), nlt (by omega) (by omega)]; omega
  refine kjZ_y rfl rfl 11 _ _ _ _ ty ?_
  refine (And.intro (ty.k (by decide) rfl) (And.intro (ty.k (by decide) rfl) (Exists.intro _ (And.intro f1 (And.intro (by assumption) (Exists.intro a (Exists.intro (st + p) (Exists.intro v.length (And.intro ⟨e4, (show σ.1 y.1 7 + x2 = _ by rw [v7, e2, nI_add]), e5⟩ (And.intro ⟨by rw [kg, f2], by rw [kg]; exact ha, by rw [f2]; show _ ≤ NT; omega⟩ (And.intro ⟨(Nat.le_of_ble_eq_true rfl), (Nat.le_of_ble_eq_true rfl)⟩ (Or.inl (And.intro (Or.inr (kdk f2)) (fun ty' => ?_))))))))))))))
  have go : ∀ z, kTY z → z = (kUp σ.1 rt (va_cpy (σ.1 g) (σ.1 rt) a (st + p) v.length), σ.2) → kjY kPP (kQQ Y) (d + 1) 167 27 [some (.ref 67), some (.ref y.1), some (.int x2), some (.ref g), some (.int x4), some (.int x5)] [] z (wP σ0 B σ ws nm (P ++ mkK y (txG (ovT p v) y.2.2.2.2.2) :: Q)) := by
    intro z tz ez
    have hl := ovT_len hp
    have eh : ∀ h x, ¬ (h = rt ∧ st + p ≤ x ∧ x < st + p + v.length) → z.1 h x = σ.1 h x := by
      intro h x hx
      rw [ez]
      by_cases hr : h = rt
      · subst hr
        show kUp σ.1 h _ h x = _
        rw [kUp_s, pk_cpy_out (by omega)]
      · show kUp σ.1 rt _ h x = _
        rw [kUp_n hr]
    obtain ⟨k1, k2⟩ := close z (ovT p v y.2.2.2.2.2.2.2.2.2.1) (by omega) (by rw [ez]) (fun h x _ z2 => eh h x (fun q => z2 ⟨q.1, by omega, by omega⟩)) (by rw [eh _ _ (fun q => nn1 q.1.symm), hl]; exact s4') (by rw [eh _ _ (fun q => nn1 q.1.symm), hl]; exact v6) (by
      rw [hl, ez]; show wd (kUp σ.1 rt _ rt) _ _ = _
      rw [kUp_s]; exact wd_ovT n5 hv hp)
    refine kjZ_y rfl rfl 1 _ _ _ _ tz ?_
    refine And.intro rfl (And.intro rfl ?_)
    exact ⟨rfl, k1, k2⟩
  exact go _ ty' rfl
theorem kx_overlayA (ty : kTY σ) {P Q : List KC} {y : KC} (w : KWd σ0 B σ ws nm (P ++ y :: Q)) (hs : y.2.2.2.2.2.2.1 = 0) (hwk : wkO y) {i p : Nat} {v : List Int32} (hv : ws[i]? = some v) (hp : p + v.length ≤ y.2.2.2.2.2.2.2.2.2.1.length) (x2 x3 : Int32) (e2 : x2 = nI p) (e3 : x3 = nI i) :
    kjY kPP (kQQ Y) (d + 2) 168 0 (mjL0 4 [.ref 67, .ref y.1, .int x2, .int x3]) [] σ (wP σ0 B σ ws nm (P ++ mkK y (txG (ovT p v) y.2.2.2.2.2) :: Q)) := by
  obtain ⟨g, M, a, ⟨h1, h2, h3⟩, hne, h4, h5, h6, -⟩ := w.arg hv
  have kv : (σ.2.2.2.1 y.1).1 = 11 := by
    obtain ⟨k2, -, -, hd, -⟩ := w.val rfl
    rw [hd]
  have kg : (σ.2.2.2.1 g).1 = 21 := by rw [h2]
  refine kjZ_y rfl rfl 10 _ _ _ _ ty ?_
  refine (And.intro (ty.k (by decide) rfl) (And.intro (ty.k (by decide) rfl) (Exists.intro _ (And.intro h1 (And.intro (ty.k (by decide) rfl) (And.intro (Nat.le_of_ble_eq_true rfl) (And.intro (Or.inl ⟨(Nat.le_of_ble_eq_true rfl), (ty.k (by decide) rfl)⟩) (And.intro (Nat.le_of_ble_eq_true rfl) (And.intro (Nat.le_of_ble_eq_true rfl) (kjY_mono ty (fun q_ u1 ty1 xu1 h_ => ?_) (kx_startOf ty w hv _ e3)))))))))))
  obtain ⟨rfl, g1, M1, a1, rfl, ⟨q1, q2, q3⟩, q4, q5, q6⟩ := h_
  intro _ _
  have hgg : g1 = g := by rw [h1] at q1; cases q1; rfl
  subst hgg
  refine kjZ_y rfl rfl 4 _ _ _ _ ty1 ?_
  refine (And.intro (ty1.k (by decide) rfl) (And.intro (Nat.le_of_ble_eq_true rfl) (And.intro (Or.inl ⟨(Nat.le_of_ble_eq_true rfl), (ty1.k (by decide) rfl)⟩) (And.intro (Nat.le_of_ble_eq_true rfl) (And.intro (Nat.le_of_ble_eq_true rfl) (kjY_mono ty1 (fun q_ u2 ty2 xu2 h_ => ?_) (kx_lengthOf ty1 w hv _ e3)))))))
  obtain ⟨rfl, rfl⟩ := h_
  intro _ _
  refine kjZ_y rfl rfl 1 _ _ _ _ ty2 ?_
  refine (And.intro (Nat.le_of_ble_eq_true rfl) (And.intro (Or.inl ⟨(Nat.le_of_ble_eq_true rfl), (ty2.k (by decide) rfl)⟩) (And.intro (Nat.le_of_ble_eq_true rfl) (And.intro (Nat.le_of_ble_eq_true rfl) (kjY_mono ty2 (fun q_ u3 ty3 xu3 h_ => ?_) (kx_overlay ty2 w hs hwk q2 q3 (fun z => RQ.ne w.2.1.1 q4 (q := (59, 7)) (by decide) (by decide +kernel) z) q5 q6 hp _ _ _ e2 rfl rfl))))))
  obtain ⟨rfl, w3⟩ := h_
  intro _ _
  refine kjZ_y rfl rfl 1 _ _ _ _ ty3 ?_
  refine And.intro rfl (And.intro rfl ?_)
  exact ⟨rfl, w3⟩
end KSTR2
