/-! A text is stretched, and what is spelt stays. -/
theorem nI_mul (a b : Nat) : nI a * nI b = nI (a * b) := (Int32.ofNat_mul a b).symm
section KSTR3
variable {Y : Nat → MethodName × ByteArray} {d : Nat} {σ0 σ u : kS} {B ws nm nm' : List (List Int32)} {ks : List KC}
theorem stK_n : ∀ b ∈ ANn, ∀ p : Nat × Nat, p ∈ stKf ∨ p ∈ stKo → ¬ p.1 = b := by
  have h1 : ∀ p ∈ stKf, p.1 = 59 := by decide
  have h2 : ∀ p ∈ stKo, p.1 = 59 := by decide
  intro b hb p hp e
  have h59 := (ANn_b b hb).2.2.1
  exact h59 (e.symm.trans (hp.elim (h1 p) (h2 p)))
theorem kBY.of {b y rt : Nat} {l : List Int32} (h : kBY σ b l) (e2 : u.2 = σ.2) (hI : ∀ h x, ¬ h = y → ¬ h = rt → u.1 h x = σ.1 h x) (h1 : ¬ b = y) (h2 : ¬ b = rt) (hr : ∀ r, σ.2.2.1 b 1 = some r → ¬ r = y ∧ ¬ r = rt) : kBY u b l := by
  obtain ⟨r, N, m1, m2, m3, m4, m5, m6, m7⟩ := h
  have eF : u.2.2.1 = σ.2.2.1 := congrArg (fun t => t.2.1) e2
  have eD : u.2.2.2.1 = σ.2.2.2.1 := congrArg (fun t => t.2.2.1) e2
  refine ⟨r, N, by rw [eF]; exact m1, by rw [eD]; exact m2, m3, by rw [hI b 0 h1 h2]; exact m4, by rw [hI b 2 h1 h2]; exact m5, m6, ?_⟩
  rw [← m7, wd_len]
  exact wd_congr (fun k _ => hI r _ (hr r m1).1 (hr r m1).2)
/-- and what is spelt elsewhere stays -/
def skP (σ0 : kS) (B : List (List Int32)) (σ : kS) (ws nm : List (List Int32)) (ks : List KC) : kK := fun r u => wP σ0 B σ ws nm ks r u ∧ ∀ b l, b ∈ ANn → kBY σ b l → kBY u b l
theorem kx_stretch2 (ty : kTY σ) {P Q : List KC} {y : KC} (w : KWd σ0 B σ ws nm (P ++ y :: Q)) (hs : y.2.2.2.2.2.2.1 = 0) {m : Nat} (hm : m ≤ 16384) (hcap : xtA (skA (P ++ y :: Q)) + 16384 ≤ 98304) (x2 : Int32) (e2 : x2 = nI m) :
    kjY kPP (kQQ Y) (d + 3) 166 0 (mjL0 4 [.ref 67, .ref y.1, .int x2]) [] σ (skP σ0 B σ ws nm (P ++ mkK y (txG (stT m) y.2.2.2.2.2) :: Q)) := by
  obtain ⟨fr, vs, k0, n0, e0, t0, cs0, hR, hV, a1, hav, hd, ht, s6, hn6, s4⟩ := w.op_
  have b1 : y.2.2.2.2.2.2.1 = nI k0 := hav.1
  have b2' : k0 ≤ 4 := hav.2.1
  have hk0 : k0 = 0 := (nI_eq (b := 0) (by omega) (by decide)).mp (b1.symm.trans hs)
  subst hk0
  have hms := STO.ms hR hV
  have kv : (σ.2.2.2.1 y.1).1 = 11 := by rw [hd]
  refine kjZ_y rfl rfl 5 _ _ _ _ ty ?_
  refine (And.intro (ty.k (by decide) rfl) (And.intro (Nat.le_of_ble_eq_true rfl) (And.intro (Or.inl ⟨(Nat.le_of_ble_eq_true rfl), (ty.k (by decide) rfl)⟩) (And.intro (Nat.le_of_ble_eq_true rfl) (And.intro (Nat.le_of_ble_eq_true rfl) (kjY_mono ty (fun q_ u1 ty1 xu1 h_ => ?_) (k_growText ty w.2.1.1 w.2.1.2 hR a1 (hav.2.2.2.2.2.1 rfl).2 hm (by rw [hms.1]; exact hcap) _ e2)))))))
  obtain ⟨rfl, r1, ⟨ρ, g1, g2, g3⟩, o1, p1, c1⟩ := h_
  intro _ _
  have kv1 : (u1.2.2.2.1 y.1).1 = 11 := xu1.k ty kv (by decide)
  obtain ⟨q1, q2⟩ := w.k0.sto ty c1 (by decide) (by decide) o1 p1
  have w1 : KWd σ0 B u1 ws nm (P ++ y :: Q) := q1.mk ⟨fr, vs, r1, hV⟩
  obtain ⟨rt, NT, st, ro, ⟨f1, f2, f3⟩, ⟨v1, v6, v7, v8⟩, ⟨n1, n2, n3, n5⟩, ⟨nn1, nn2⟩, close⟩ := w1.tx ty1 hs
  have hro : ρ = ro := (nI_eq (by omega) (by omega)).mp (g1.symm.trans v8)
  subst hro
  refine kjZ_y rfl rfl 4 _ _ _ _ ty1 ?_
  refine (And.intro (by assumption) (And.intro (Nat.le_of_ble_eq_true rfl) (And.intro (Nat.le_of_ble_eq_true rfl) (And.intro (Nat.le_of_ble_eq_true rfl) (kjY_mono ty1 (fun q_ u2 ty2 xu2 h_ => ?_) (k_min ty1 _ _))))))
  obtain ⟨rfl, rfl⟩ := h_
  intro _ _
  have em : (if u2.1 y.1 8 < x2 then u2.1 y.1 8 else x2) = nI m := by
    rw [if_neg (by rw [g1, e2, nlt (by omega) (by omega)]; omega)]; exact e2
  generalize ht0 : y.2.2.2.2.2.2.2.2.2.1 = t at *
  have go28 : ∀ (z : kS) (x3 : Int32), x3 = nI m → kTY z → z.2 = u2.2 → (∀ h x, ¬ (h = rt ∧ st + t.length ≤ x ∧ x < st + m) → z.1 h x = u2.1 h x) → wd (z.1 rt) st m = stT m t → kjY kPP (kQQ Y) (d + 3) 166 28 [some (.ref 67), some (.ref y.1), some (.int x2), some (.int x3)] [] z (skP σ0 B σ ws nm (P ++ mkK y (txG (stT m) y.2.2.2.2.2) :: Q)) := by
    intro z x3 e3 tz hz2 hzo hzw
    have kvz : (z.2.2.2.1 y.1).1 = 11 := by rw [show z.2.2.2.1 = u2.2.2.2.1 from congrArg (fun t => t.2.2.1) hz2]; exact kv1
    refine kjZ_y rfl rfl 6 _ _ _ _ tz ?_
    refine (And.intro (by assumption) (And.intro (Or.inl rfl) (fun tz' => (And.intro (by assumption) (And.intro (Or.inl rfl) (fun tz'' => ?_))))))
    have go : ∀ zz, kTY zz → zz = (mjIu (mjIu z.1 y.1 6 x3) y.1 4 x3, z.2) → kjY kPP (kQQ Y) (d + 3) 166 34 [some (.ref 67), some (.ref y.1), some (.int x2), some (.int x3)] [] zz (skP σ0 B σ ws nm (P ++ mkK y (txG (stT m) y.2.2.2.2.2) :: Q)) := by
      intro zz tzz ez
      have eZ : ∀ h x, zz.1 h x = if h = y.1 ∧ x = 4 then x3 else if h = y.1 ∧ x = 6 then x3 else z.1 h x := by
        intro h x; rw [ez]; show mjIu (mjIu z.1 y.1 6 x3) y.1 4 x3 h x = _; rw [mjIu_at, mjIu_at]
      have hl := stT_len m t
      obtain ⟨k1, k2⟩ := close zz (stT m t) (by omega) (by rw [ez]; exact hz2) (fun h x z1 z2 => by
        rw [eZ, if_neg (fun q => z1 ⟨q.1, Or.inl q.2⟩), if_neg (fun q => z1 ⟨q.1, Or.inr q.2⟩)]
        exact hzo h x (fun q => z2 ⟨q.1, by omega, by omega⟩)) (by rw [eZ, if_pos ⟨rfl, rfl⟩, hl]; exact e3) (by rw [eZ, if_neg (fun q => absurd q.2 (by decide)), if_pos ⟨rfl, rfl⟩, hl]; exact e3) (by
        rw [hl, ← hzw]; exact wd_congr (fun k _ => by rw [eZ, if_neg (fun q => nn1 q.1), if_neg (fun q => nn1 q.1)]))
      refine kjZ_y rfl rfl 1 _ _ _ _ tzz ?_
      refine And.intro rfl (And.intro rfl ?_)
      refine ⟨⟨rfl, ?_, q2.tr k2⟩, fun b l hb hl => ?_⟩
      rotate_left
      · have hb1 := (ANn_b b hb).1
        have k1b : kBY u2 b l := hl.fr ty w.2.1.1 hb1 c1 (by intro p hp e; exact stK_n b hb p (Or.inl ((by decide : ∀ p ∈ txF, p ∈ stKf) p hp)) e) (by intro p hp; exact ⟨kcO_in p ((by decide +kernel : ∀ p ∈ stKo, p ∈ kcO) p ((by decide : ∀ p ∈ txO, p ∈ stKo) p hp)), fun e => stK_n b hb p (Or.inr ((by decide : ∀ p ∈ txO, p ∈ stKo) p hp)) e⟩)
        have kb0 := ob_k ty2 hb1
        obtain ⟨r, N, m1, m2, m3⟩ := k1b
        refine kBY.of (σ := u2) (u := zz) ⟨r, N, m1, m2, m3⟩ (y := y.1) (rt := rt) (by rw [ez]; exact hz2) (fun h x a1 a2 => ?_) (fun e => ?_) (fun e => ?_) (fun r' e => ?_)
        · rw [eZ, if_neg (fun q => a1 q.1), if_neg (fun q => a1 q.1)]
          exact hzo h x (fun q => a2 q.1)
        · rw [e, v1] at kb0; exact absurd (show (11 : Nat) = 0 from kb0) (by decide)
        · rw [e, f2] at kb0; exact absurd (show (21 : Nat) = 0 from kb0) (by decide)
        · refine ⟨fun e2 => ?_, fun e2 => ?_⟩
          · have : r = r' := Option.some.inj (m1.symm.trans e)
            rw [this, e2, v1] at m2; cases m2
          · have := w1.2.1.1 (b, 1) (ow_b hb1) (59, 7) (by decide) (e.trans (by rw [e2]; exact f1.symm))
            exact stK_n b hb (59, 7) (Or.inl (by decide)) (congrArg Prod.fst this).symm
      have ek : mkK y (txG (fun _ => stT m t) y.2.2.2.2.2) = mkK y (txG (stT m) y.2.2.2.2.2) := by
        show mkK y (_, _, _, _, stT m t, _) = mkK y (_, _, _, _, stT m y.2.2.2.2.2.2.2.2.2.1, _)
        rw [ht0]
      rw [ek] at k1; exact k1
    exact go _ tz'' rfl
  refine kjZ_y rfl rfl 5 _ _ _ _ ty2 ?_
  refine (And.intro (Nat.le_of_ble_eq_true rfl) (And.intro (by assumption) (And.intro (fun c => ?_) (fun c => ?_))))
  · have c : (if u2.1 y.1 8 < x2 then u2.1 y.1 8 else x2) ≤ u2.1 y.1 6 := c
    rw [em, v6, nle (by omega) (by omega)] at c
    refine go28 u2 _ em ty2 rfl (fun _ _ _ => rfl) ?_
    rw [← wd_take n5 c]; unfold stT
    rw [Nat.sub_eq_zero_of_le c]; exact (List.append_nil _).symm
  · have c : ¬ (if u2.1 y.1 8 < x2 then u2.1 y.1 8 else x2) ≤ u2.1 y.1 6 := c
    rw [em, v6, nle (by omega) (by omega)] at c
    refine kjZ_y rfl rfl 14 _ _ _ _ ty2 ?_
    refine (And.intro (ty2.k (by decide) rfl) (And.intro (ty2.k (by decide) rfl) (Exists.intro _ (And.intro f1 (And.intro (by assumption) (And.intro (by assumption) (And.intro (by assumption) (And.intro (Nat.le_of_ble_eq_true rfl) (And.intro (Nat.le_of_ble_eq_true rfl) (And.intro (Nat.le_of_ble_eq_true rfl) (kjY_mono ty2 (fun q_ u3 ty3 xu3 h_ => ?_) (k_fill ty2 f2 (by omega) (a := st + t.length) (b := st + m) (by omega) (by omega) _ _ (show u2.1 y.1 7 + u2.1 y.1 6 = _ by rw [v7, v6, nI_add]) (show u2.1 y.1 7 + (if u2.1 y.1 8 < x2 then u2.1 y.1 8 else x2) = _ by rw [em, v7, nI_add])))))))))))))
    obtain ⟨rfl, k1, k2, k3⟩ := h_
    intro _ _
    refine go28 u3 _ em ty3 k1 k2 ?_
    have em2 : m = t.length + (m - t.length) := by omega
    rw [em2, wd_app, ← em2]
    unfold stT
    rw [List.take_of_length_le (by omega)]
    congr 1
    · rw [← n5, wd_len]
      exact wd_congr (fun k hk => k2 rt _ (fun q => by omega))
    · exact wd_zero _ (fun x h1 h2 => k3 x h1 (by omega))
/-- a numeral's bytes begin anew -/
theorem KWd.emp (ty : kTY σ) (w : KWd σ0 B σ ws nm ks) {b : Nat} (hb : b ∈ ANn) (e : u = (mjIu (mjIu σ.1 b 2 0) b 3 0, σ.2)) : KWd σ0 B u ws nm ks ∧ kBY u b [] ∧ u.1 b 3 = 0 ∧ SCl scA σ u := by
  have hb1 := (ANn_b b hb).1
  have kb := ob_k ty hb1
  obtain ⟨l, r, N, m1, m2, m3, m4, m5, m6, m7⟩ := w.2.2.2.2.2.1 b hb
  have c1 : Ch false [(b, 1), (b, 2), (b, 3)] [(b, 1)] σ (mjIu σ.1 b 2 0, σ.2) := (Ch_i (by rw [kb]; decide)).up (fun z => z) (by simp) (by simp)
  have c2 : Ch false [(b, 1), (b, 2), (b, 3)] [(b, 1)] (mjIu σ.1 b 2 0, σ.2) u := by
    rw [e]
    exact (Ch_i (σ := (mjIu σ.1 b 2 0, σ.2)) (show (σ.2.2.2.1 b).1 < 20 by rw [kb]; decide)).up (fun z => z) (by simp) (by simp)
  have ch := Ch.tr ty (fun p hp => by rw [List.mem_singleton.mp hp]; exact ow_b hb1) c1 c2
  have eI : ∀ h x, u.1 h x = if h = b ∧ x = 3 then 0 else if h = b ∧ x = 2 then 0 else σ.1 h x := fun h x => by
    rw [e]; show mjIu (mjIu σ.1 b 2 0) b 3 0 h x = _; rw [mjIu_at, mjIu_at]
  have b59 := (ANn_b b hb).2.2.1
  have kBYu : kBY u b [] := by
    refine ⟨r, N, by rw [e]; exact m1, by rw [e]; exact m2, m3, ?_, ?_, Nat.zero_le _, rfl⟩
    · rw [eI, if_neg (by simp), if_neg (by simp)]; exact m4
    · rw [eI, if_neg (by simp), if_pos ⟨rfl, rfl⟩]; rfl
  have ow : OWN u := w.2.1.1.same (fun p _ => by rw [e])
  have po : POT u := POT_PO.mpr ((PO_of (c := ksz u b) (by have q : ∀ b ∈ ANn, ¬ b ∈ payB := by decide +kernel
                                                           exact q b hb) w.2.1.2).same (Nat.le_refl _) (fun p hp => by unfold kl; rw [e]) (fun b' _ z => by rw [eI, if_neg (fun q => z q.1), if_neg (fun q => z q.1)]) (by rw [eI, if_neg (fun q => b59 q.1.symm), if_neg (fun q => b59 q.1.symm)]) (by rw [e]; exact ⟨rfl, rfl⟩))
  refine ⟨w.ans ty hb ch ow po kBYu, kBYu, by rw [eI, if_pos ⟨rfl, rfl⟩], ch.sc ty (fun p hp => ⟨(scA_ok p hp).1, (scA_ok p hp).2.1, fun z => (scA_ok p hp).2.2.2.1 b hb ?_⟩)⟩
  have f1 : ∀ p ∈ [(b, 1), (b, 2), (b, 3)], p.1 = b := by simp
  exact f1 p z
end KSTR3
