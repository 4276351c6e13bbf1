/-! Words: a new word, from its first instruction; a word's number. -/
section KADD2
variable {Y : Nat → MethodName × ByteArray} {d : Nat} {σ : kS}
/-- a row is written: the room stays paid -/
theorem POT.row (ty : kTY σ) (po : POT σ) {r k N : Nat} (kr : σ.2.2.2.1 r = (k, N)) (hk : 20 ≤ k) {f : Nat → Int32} : POT (kUp σ.1 r f, σ.2) := by
  have ne : ∀ h, h < 76 → (kd0 h).1 < 20 → ¬ h = r := fun h h1 h2 z => by
    have e := ty.2.2.1 h h1
    rw [z, kr] at e
    have e1 := congrArg Prod.fst e
    have e1 : k = (kd0 r).1 := e1
    rw [z] at h2; omega
  have hb : ∀ b ∈ OWb, b < 76 ∧ (kd0 b).1 < 20 := by decide
  exact po.same (fun p hp => kl_eq ty kEx_i hp rfl) (fun b q => by show kUp σ.1 r f b 2 = _; rw [kUp_n (ne b (hb b q).1 (hb b q).2)]) (by show kUp σ.1 r f 59 6 = _; rw [kUp_n (ne 59 (by decide) (by decide))]) ⟨rfl, rfl⟩
theorem k_add4 {σ0 : kS} (ty0 : kTY σ0) (ty : kTY σ) (ow : OWN σ) (po : POT σ) {nm : List (List Int32)} {rb NB rs NS rc : Nat} (hw : WRG σ nm rb NB rs NS rc NS) (hn : nm.length + 2 ≤ NS) {g M a n : Nat} (kg : σ.2.2.2.1 g = (21, M)) (hM : M ≤ 600000) (ha : a + n ≤ M) (hg : ¬ rb = g) (hx : wd (σ.1 g) a n ∉ nm) (hb : sl nm + n ≤ NB) (ch : Ch false wFs wOs σ0 σ) (x1 x3 x4 x5 : Int32) (e1 : x1 = hB (wd (σ.1 g) a n)) (e3 : x3 = nI a) (e4 : x4 = nI n) (e5 : x5 = nI (sl nm)) :
    kjY kPP (kQQ Y) (d + 3) 78 55 [some (.ref 48), some (.int x1), some (.ref g), some (.int x3), some (.int x4), some (.int x5)] [] σ (adP σ0 nm (wd (σ.1 g) a n)) := by
  obtain ⟨⟨n1, n2, n3⟩, ⟨n4, n5, n6⟩, ⟨n7, n8, n9⟩⟩ := hw.ne ow ty
  have b1 := hw.1.1
  have b2 := hw.1.2.1
  have b3 := hw.1.2.2.1
  refine kjZ_y rfl rfl 2 _ _ _ _ ty ?_
  refine And.intro (fun c => ?_) (fun c => ?_)
  · have c : x4 ≤ 0 := c
    rw [e4] at c
    have c : nI n ≤ nI 0 := c
    rw [nle (by omega) (by omega)] at c
    have hn0 : n = 0 := by omega
    exact k_add3 ty0 ty ow po hw hn hx (by rw [wd_len]; exact hb) (by rw [wd_len, hn0]; rfl) ch x1 x3 x4 x5 g e1 (by rw [wd_len]; exact e4) e5
  · refine kjZ_y rfl rfl 7 _ _ _ _ ty ?_
    refine (And.intro (ty.k (by decide) rfl) (Exists.intro _ (And.intro b1 (Exists.intro a (Exists.intro (sl nm) (Exists.intro n (And.intro ⟨e3, e5, e4⟩ (And.intro ⟨by rw [kg, b2], by rw [kg]; exact ha, by rw [b2]; exact hb⟩ (And.intro ⟨(Nat.le_of_ble_eq_true rfl), (Nat.le_of_ble_eq_true rfl)⟩ (Or.inl (And.intro (Or.inr (kdk b2)) (fun ty' => ?_))))))))))))
    have go : ∀ u, kTY u → u = (kUp σ.1 rb (va_cpy (σ.1 g) (σ.1 rb) a (sl nm) n), σ.2) → kjY kPP (kQQ Y) (d + 3) 78 64 [some (.ref 48), some (.int x1), some (.ref g), some (.int x3), some (.int x4), some (.int x5)] [] u (adP σ0 nm (wd (σ.1 g) a n)) := by
      intro u tu eu
      have eF : u.2.2.1 = σ.2.2.1 := by rw [eu]
      have eD : u.2.2.2.1 = σ.2.2.2.1 := by rw [eu]
      have eI : ∀ h, ¬ h = rb → u.1 h = σ.1 h := fun h z => by rw [eu]; exact kUp_n z
      have hwu : WRG u nm rb NB rs NS rc NS := hw.of (by omega) ⟨by rw [eF]; exact b1, by rw [eD]; exact b2, Nat.le_refl _, b3⟩ ⟨by rw [eF]; exact hw.2.1.1, by rw [eD]; exact hw.2.1.2.1, Nat.le_refl _, hw.2.1.2.2.2.2.1⟩ ⟨by rw [eF]; exact hw.2.1.2.2.1, by rw [eD]; exact hw.2.1.2.2.2.1⟩ (by rw [eI 48 (fun z => n7 z.symm)]) (fun j hj => by rw [eu]; show kUp σ.1 rb _ rb j = _; rw [kUp_s, pk_cpy_out (Or.inl hj)]) (fun j _ => by rw [eI rs (fun z => n1 z.symm)]) (fun j _ => by rw [eI rc (fun z => n2 z.symm)]) (fun b => by rw [eI 52 (fun z => n4 z.symm)])
      refine k_add3 ty0 tu (ow.same (fun p _ => by rw [eF])) (by rw [eu]; exact po.row ty b2 (by decide)) hwu hn hx (by rw [wd_len]; exact hb) ?_ ?_ x1 x3 x4 x5 g e1 (by rw [wd_len]; exact e4) e5
      · rw [wd_len]
        refine wd_congr fun k hk => ?_
        rw [eu]; show kUp σ.1 rb _ rb _ = _
        rw [kUp_s, pk_cpy_in (by omega) (by omega)]; exact congrArg (σ.1 g) (by omega)
      · refine Ch.tr ty0 wOs_in ch ?_
        rw [eu]
        exact (Ch_ra (p := (48, 0)) b1 (by rw [b2]; exact (show 20 ≤ 21 by decide))).up (fun z => z) (fun p hp => by cases hp) (fun p hp => by rw [List.mem_singleton.mp hp]; decide)
    exact go _ ty' rfl
theorem k_add2 {σ0 : kS} (ty0 : kTY σ0) (ty : kTY σ) (ow : OWN σ) (po : POT σ) {nm : List (List Int32)} {rb NB rs NS rc : Nat} (hw : WRG σ nm rb NB rs NS rc NS) (hn : nm.length + 2 ≤ NS) {g M a n : Nat} (kg : σ.2.2.2.1 g = (21, M)) (hM : M ≤ 600000) (ha : a + n ≤ M) (hg : ¬ rb = g) (hx : wd (σ.1 g) a n ∉ nm) (hcap : sl nm + n ≤ 235000) (ch : Ch false wFs wOs σ0 σ) (x1 x3 x4 : Int32) (o5 : Option Value) (e1 : x1 = hB (wd (σ.1 g) a n)) (e3 : x3 = nI a) (e4 : x4 = nI n) :
    kjY kPP (kQQ Y) (d + 3) 78 28 [some (.ref 48), some (.int x1), some (.ref g), some (.int x3), some (.int x4), o5] [] σ (adP σ0 nm (wd (σ.1 g) a n)) := by
  have hl := ty.lr kg (by decide)
  obtain ⟨⟨n1, n2, n3⟩, ⟨n4, n5, n6⟩, ⟨n7, n8, n9⟩⟩ := hw.ne ow ty
  have hwo := hw
  obtain ⟨⟨b1, b2, b3, b3'⟩, ⟨s1, s2, s3, s4, s5, s5'⟩, a1, a2, a3, a4, a5, a6, a7, a8⟩ := hw
  have vc : vp_in (σ.1 48 4) NS := by rw [a2]; exact vp_in_nI (by omega) (by omega)
  have c1 : (σ.1 48 4).toNatClampNeg = nm.length := by rw [a2]; exact nI_clamp (by omega)
  have es : σ.1 rs (σ.1 48 4).toNatClampNeg = nI (sl nm) := by rw [c1, a3 _ (Nat.le_refl _), List.take_length]
  refine kjZ_y rfl rfl 6 _ _ _ _ ty ?_
  refine (And.intro (ty.k (by decide) rfl) (Exists.intro _ (And.intro s1 (And.intro (ty.k (by decide) rfl) (Or.inl (And.intro (kdk s2) (And.intro (kdv s2 vc) (And.intro (Nat.le_of_ble_eq_true rfl) ?_))))))))
  have go : ∀ x5, x5 = nI (sl nm) → kjY kPP (kQQ Y) (d + 3) 78 34 [some (.ref 48), some (.int x1), some (.ref g), some (.int x3), some (.int x4), some (.int x5)] [] σ (adP σ0 nm (wd (σ.1 g) a n)) := by
    intro x5 e5
    refine kjZ_y rfl rfl 7 _ _ _ _ ty ?_
    refine (And.intro (ty.k (by decide) rfl) (Exists.intro _ (And.intro b1 (Or.inl (And.intro (kdq b2) (And.intro (fun c => ?_) (fun c => ?_)))))))
    · have c : x4 ≤ nI (σ.2.2.2.1 rb).2 - x5 := c
      rw [e4, b2, e5, pk_sub a4, nle (by omega) (by omega)] at c
      exact k_add4 ty0 ty ow po hwo hn kg hM ha hg hx (by omega) ch x1 x3 x4 x5 e1 e3 e4 e5
    · have c : ¬ x4 ≤ nI (σ.2.2.2.1 rb).2 - x5 := c
      rw [e4, b2, e5, pk_sub a4, nle (by omega) (by omega)] at c
      have ek : kl σ (48, 0) = NB := by unfold kl; show (σ.2.2.2.1 ((σ.2.2.1 48 0).getD 0)).2 = NB; rw [b1]; show (σ.2.2.2.1 rb).2 = NB; rw [b2]
      have hpay := POT.pay (p := (48, 0)) (c := sl nm + n) (N := max (sl nm + n) (2 * NB)) (by decide) po (by rw [ek]; omega) (by show _ ≤ 235000; exact hcap) (by rw [ek]; omega)
      refine kjZ_y rfl rfl 12 _ _ _ _ ty ?_
      refine (And.intro (ty.k (by decide) rfl) (Exists.intro _ (And.intro b1 (And.intro (ty.k (by decide) rfl) (Exists.intro _ (And.intro b1 (Or.inl (And.intro (kdq b2) (And.intro (Nat.le_of_ble_eq_true rfl) (And.intro (Nat.le_of_ble_eq_true rfl) (And.intro (Nat.le_of_ble_eq_true rfl) (kjY_mono ty (fun q_ u1 ty1 xu1 h_ => ?_) (k_max ty _ _)))))))))))))
      obtain ⟨rfl, rfl⟩ := h_
      intro _ _
      have ez : (if x5 + x4 < Int32.ofInt 2 * nI (u1.2.2.2.1 rb).2 then Int32.ofInt 2 * nI (u1.2.2.2.1 rb).2 else x5 + x4) = nI (max (sl nm + n) (2 * NB)) := by
        rw [b2, nI_2, e5, e4, nI_add]
        by_cases q : sl nm + n < 2 * NB
        · rw [if_pos (nI_lt q (by omega))]; congr 1; omega
        · rw [if_neg (Int32.not_lt.mpr (nI_le (by omega) (by omega)))]; congr 1; omega
      refine kjZ_y rfl rfl 1 _ _ _ _ ty1 ?_
      refine (And.intro (Nat.le_of_ble_eq_true rfl) (And.intro (Nat.le_of_ble_eq_true rfl) (And.intro (Nat.le_of_ble_eq_true rfl) (kjY_mono ty1 (fun q_ u3 ty3 xu3 h_ => ?_) (k_copyB ty1 rb NB (max (sl nm + n) (2 * NB)) b2 _ ez (by omega) (by omega) hpay.2.1 hpay.1)))))
      obtain ⟨rfl, eu⟩ := h_
      intro _ _
      have kn3 : (u3.2.2.2.1 u1.2.2.2.2.1).1 = 21 := by rw [eu]; show (kUp u1.2.2.2.1 u1.2.2.2.2.1 (21, _) u1.2.2.2.2.1).1 = 21; rw [kUp_s]
      refine kjZ_y rfl rfl 1 _ _ _ _ ty3 ?_
      refine (And.intro (ty3.k (by decide) rfl) (And.intro (Or.inl ⟨rfl, by assumption⟩) (fun ty3' => ?_)))
      have go2 : ∀ u, kTY u → grP u1 (48, 0) rb NB (max (sl nm + n) (2 * NB)) 21 u → kjY kPP (kQQ Y) (d + 3) 78 55 [some (.ref 48), some (.int x1), some (.ref g), some (.int x3), some (.int x4), some (.int x5)] [] u (adP σ0 nm (wd (u1.1 g) a n)) := by
        intro u tu gp
        have hrb := ty1.lr b2 (by decide)
        have hrs := ty1.lr s2 (by decide)
        have hrc := ty1.lr s4 (by decide)
        have t76 := ty1.2.2.2.1
        have pu := gr_pot (c := sl nm + n) ty1 (by decide) po b1 b2 (by show _ ≤ 235000; exact hcap) (by omega) gp
        have ou := gr_ow ty1 ow gp
        have cu := gr_ch (vs := false) ty1 (by decide) gp
        obtain ⟨g1, g2, g3, g4, g5, g6, g7, g8⟩ := gp
        have eg := (g4 g hl).1
        have hwu : WRG u nm u1.2.2.2.2.1 (max (sl nm + n) (2 * NB)) rs NS rc NS := hwo.of (by omega) ⟨g1, g2, by omega, by omega⟩ ⟨by rw [g5 48 1 (by omega) (by decide)]; exact s1, by rw [(g4 rs hrs).2.2]; exact s2, Nat.le_refl _, s5⟩ ⟨by rw [g5 48 2 (by omega) (by decide)]; exact s3, by rw [(g4 rc hrc).2.2]; exact s4⟩ (by rw [(g4 48 (by omega)).1]) (fun j hj => g3 j (by omega)) (fun j _ => by rw [(g4 rs hrs).1]) (fun j _ => by rw [(g4 rc hrc).1]) (fun b => by rw [(g4 52 (by omega)).1])
        rw [← eg]
        exact k_add4 ty0 tu ou pu hwu hn (by rw [(g4 g hl).2.2]; exact kg) hM ha (by omega) (by rw [eg]; exact hx) (by omega) (Ch.tr ty0 wOs_in ch (cu.up (fun z => z) (fun p hp => by rw [List.mem_singleton.mp hp]; decide) (fun p hp => by rw [List.mem_singleton.mp hp]; decide))) x1 x3 x4 x5 (by rw [eg]; exact e1) e3 e4 e5
      refine go2 _ ty3' ?_
      rw [eu]
      exact gr_of (p := (48, 0)) ty1 (ty1.lr b2 (by decide)) ⟨hpay.2.1, hpay.1⟩
  exact go _ es
theorem k_add (ty : kTY σ) (ow : OWN σ) (po : POT σ) {nm : List (List Int32)} (hw : WRD σ nm) {g M a n : Nat} (kg : σ.2.2.2.1 g = (21, M)) (hM : M ≤ 600000) (ha : a + n ≤ M) (hg : ¬ σ.2.2.1 48 0 = some g) (hx : wd (σ.1 g) a n ∉ nm) (hcap : sl nm + n ≤ 235000) (hcap2 : nm.length + 2 ≤ 36000) (x1 x3 x4 : Int32) (e1 : x1 = hB (wd (σ.1 g) a n)) (e3 : x3 = nI a) (e4 : x4 = nI n) :
    kjY kPP (kQQ Y) (d + 3) 78 0 (mjL0 6 [.ref 48, .int x1, .ref g, .int x3, .int x4]) [] σ (adP σ nm (wd (σ.1 g) a n)) := by
  obtain ⟨rb, NB, rs, NS, rc, hw⟩ := hw.g
  have hl := ty.lr kg (by decide)
  have hwo := hw
  obtain ⟨⟨b1, b2, b3, b3'⟩, ⟨s1, s2, s3, s4, s5, s5'⟩, a1, a2, a3, a4, a5, a6, a7, a8⟩ := hw
  have hgr : ¬ rb = g := fun z => hg (by rw [b1, z])
  refine kjZ_y rfl rfl 8 _ _ _ _ ty ?_
  refine (And.intro (ty.k (by decide) rfl) (And.intro (ty.k (by decide) rfl) (Exists.intro _ (And.intro s1 (Or.inl (And.intro (kdq s2) (And.intro (fun c => ?_) (fun c => ?_))))))))
  · have c : σ.1 48 4 + Int32.ofInt 2 ≤ nI (σ.2.2.2.1 rs).2 := c
    rw [a2, s2, show nI nm.length + Int32.ofInt 2 = nI (nm.length + 2) from nI_add _ 2, nle (by omega) (by omega)] at c
    exact k_add2 ty ty ow po hwo c kg hM ha hgr hx hcap Ch.rf x1 x3 x4 none e1 e3 e4
  have c : ¬ σ.1 48 4 + Int32.ofInt 2 ≤ nI (σ.2.2.2.1 rs).2 := c
  rw [a2, s2, show nI nm.length + Int32.ofInt 2 = nI (nm.length + 2) from nI_add _ 2, nle (by omega) (by omega)] at c
  have ek : kl σ (48, 1) = NS := by unfold kl; show (σ.2.2.2.1 ((σ.2.2.1 48 1).getD 0)).2 = NS; rw [s1]; show (σ.2.2.2.1 rs).2 = NS; rw [s2]
  have hpay := POT.pay (p := (48, 1)) (c := nm.length + 2) (N := 2 * NS) (by decide) po (by rw [ek]; omega) (by show _ ≤ 36000; exact hcap2) (by rw [ek]; omega)
  have ez : Int32.ofInt 2 * nI (σ.2.2.2.1 rs).2 = nI (2 * NS) := by rw [s2, nI_2]
  refine kjZ_y rfl rfl 9 _ _ _ _ ty ?_
  refine (And.intro (ty.k (by decide) rfl) (Exists.intro _ (And.intro s1 (And.intro (ty.k (by decide) rfl) (Exists.intro _ (And.intro s1 (Or.inl (And.intro (kdq s2) (And.intro (Nat.le_of_ble_eq_true rfl) (And.intro (Nat.le_of_ble_eq_true rfl) (And.intro (Nat.le_of_ble_eq_true rfl) (kjY_mono ty (fun q_ u3 ty3 xu3 h_ => ?_) (k_copyI ty rs NS (2 * NS) s2 _ ez (by omega) (by omega) hpay.2.1 hpay.1)))))))))))))
  obtain ⟨rfl, eu⟩ := h_
  intro _ _
  have kn3 : (u3.2.2.2.1 σ.2.2.2.2.1).1 = 20 := by rw [eu]; show (kUp σ.2.2.2.1 σ.2.2.2.2.1 (20, _) σ.2.2.2.2.1).1 = 20; rw [kUp_s]
  refine kjZ_y rfl rfl 1 _ _ _ _ ty3 ?_
  refine (And.intro (ty3.k (by decide) rfl) (And.intro (Or.inl ⟨rfl, by assumption⟩) (fun ty3' => ?_)))
  have go2 : ∀ u, kTY u → grP σ (48, 1) rs NS (2 * NS) 20 u → kjY kPP (kQQ Y) (d + 3) 78 18 [some (.ref 48), some (.int x1), some (.ref g), some (.int x3), some (.int x4), none] [] u (adP σ nm (wd (σ.1 g) a n)) := by
    intro u tu gp
    have hrb := ty.lr b2 (by decide)
    have hrc := ty.lr s4 (by decide)
    have t76 := ty.2.2.2.1
    have pu := gr_pot (c := nm.length + 2) ty (by decide) po s1 s2 (by show _ ≤ 36000; exact hcap2) (by omega) gp
    have ou := gr_ow ty ow gp
    have cu := gr_ch (vs := false) ty (by decide) gp
    obtain ⟨g1, g2, g3, g4, g5, g6, g7, g8⟩ := gp
    have eg := (g4 g hl).1
    have hwu : WRG u nm rb NB σ.2.2.2.2.1 (2 * NS) rc NS := hwo.of (by omega) ⟨by rw [g5 48 0 (by omega) (by decide)]; exact b1, by rw [(g4 rb hrb).2.2]; exact b2, Nat.le_refl _, b3⟩ ⟨g1, g2, by omega, by omega⟩ ⟨by rw [g5 48 2 (by omega) (by decide)]; exact s3, by rw [(g4 rc hrc).2.2]; exact s4⟩ (by rw [(g4 48 (by omega)).1]) (fun j hj => by rw [(g4 rb hrb).1]) (fun j hj => g3 j hj) (fun j _ => by rw [(g4 rc hrc).1]) (fun b => by rw [(g4 52 (by omega)).1])
    have t1 := hwu.2.1.2.2.1
    have t2 := hwu.2.1.2.2.2.1
    have ek2 : kl u (48, 2) = NS := by unfold kl; show (u.2.2.2.1 ((u.2.2.1 48 2).getD 0)).2 = NS; rw [t1]; show (u.2.2.2.1 rc).2 = NS; rw [t2]
    have hpay2 := POT.pay (p := (48, 2)) (c := nm.length + 2) (N := 2 * NS) (by decide) pu (by rw [ek2]; omega) (by show _ ≤ 36000; exact hcap2) (by rw [ek2]; omega)
    have ez2 : Int32.ofInt 2 * nI (u.2.2.2.1 rc).2 = nI (2 * NS) := by rw [t2, nI_2]
    refine kjZ_y rfl rfl 9 _ _ _ _ tu ?_
    refine (And.intro (tu.k (by decide) rfl) (Exists.intro _ (And.intro t1 (And.intro (tu.k (by decide) rfl) (Exists.intro _ (And.intro t1 (Or.inl (And.intro (kdq t2) (And.intro (Nat.le_of_ble_eq_true rfl) (And.intro (Nat.le_of_ble_eq_true rfl) (And.intro (Nat.le_of_ble_eq_true rfl) (kjY_mono tu (fun q_ u4 ty4 xu4 h_ => ?_) (k_copyI tu rc NS (2 * NS) t2 _ ez2 (by omega) (by omega) hpay2.2.1 hpay2.1)))))))))))))
    obtain ⟨rfl, eu4⟩ := h_
    intro _ _
    have kn4 : (u4.2.2.2.1 u.2.2.2.2.1).1 = 20 := by rw [eu4]; show (kUp u.2.2.2.1 u.2.2.2.2.1 (20, _) u.2.2.2.2.1).1 = 20; rw [kUp_s]
    refine kjZ_y rfl rfl 1 _ _ _ _ ty4 ?_
    refine (And.intro (ty4.k (by decide) rfl) (And.intro (Or.inl ⟨rfl, by assumption⟩) (fun ty4' => ?_)))
    have go3 : ∀ v, kTY v → grP u (48, 2) rc NS (2 * NS) 20 v → kjY kPP (kQQ Y) (d + 3) 78 28 [some (.ref 48), some (.int x1), some (.ref g), some (.int x3), some (.int x4), none] [] v (adP σ nm (wd (σ.1 g) a n)) := by
      intro v tv gq
      have pv := gr_pot (c := nm.length + 2) tu (by decide) pu t1 t2 (by show _ ≤ 36000; exact hcap2) (by omega) gq
      have ov := gr_ow tu ou gq
      have cv := gr_ch (vs := false) tu (by decide) gq
      obtain ⟨i1, i2, i3, i4, i5, i6, i7, i8⟩ := gq
      have hn9 : σ.2.2.2.2.1 < u.2.2.2.2.1 := by omega
      have eg2 := (i4 g (by omega)).1
      have hwv : WRG v nm rb NB σ.2.2.2.2.1 (2 * NS) u.2.2.2.2.1 (2 * NS) := hwu.of (by omega) ⟨by rw [i5 48 0 (by omega) (by decide)]; exact hwu.1.1, by rw [(i4 rb (by omega)).2.2]; exact hwu.1.2.1, Nat.le_refl _, b3⟩ ⟨by rw [i5 48 1 (by omega) (by decide)]; exact g1, by rw [(i4 σ.2.2.2.2.1 hn9).2.2]; exact g2, Nat.le_refl _, by omega⟩ ⟨i1, i2⟩ (by rw [(i4 48 (by omega)).1]) (fun j hj => by rw [(i4 rb (by omega)).1]) (fun j hj => by rw [(i4 σ.2.2.2.2.1 hn9).1]) (fun j hj => i3 j hj) (fun b => by rw [(i4 52 (by omega)).1])
      rw [← eg, ← eg2]
      refine k_add2 ty tv ov pv hwv (by omega) (by rw [(i4 g (by omega)).2.2, (g4 g hl).2.2]; exact kg) hM ha hgr (by rw [eg2, eg]; exact hx) hcap ?_ x1 x3 x4 none (by rw [eg2, eg]; exact e1) e3 e4
      refine Ch.tr ty wOs_in (cu.up (fun z => z) ?_ ?_) (cv.up (fun z => z) ?_ ?_)
      · intro p hp; rw [List.mem_singleton.mp hp]; decide
      · intro p hp; rw [List.mem_singleton.mp hp]; decide
      · intro p hp; rw [List.mem_singleton.mp hp]; decide
      · intro p hp; rw [List.mem_singleton.mp hp]; decide
    refine go3 _ ty4' ?_
    rw [eu4]
    exact gr_of (p := (48, 2)) tu (tu.lr t2 (by decide)) ⟨hpay2.2.1, hpay2.1⟩
  refine go2 _ ty3' ?_
  rw [eu]
  exact gr_of (p := (48, 1)) ty (ty.lr s2 (by decide)) ⟨hpay.2.1, hpay.1⟩
/-- a word's number: it is among the words, or comes to them -/
def idP (σ : kS) (nm : List (List Int32)) (w : List Int32) : kK := fun r u => ∃ i nm', r = some (.int (nI i)) ∧ nm'[i]? = some w ∧ (nm' = nm ∨ (w ∉ nm ∧ nm' = nm ++ [w])) ∧ WRD u nm' ∧ OWN u ∧ POT u ∧ Ch false wFs wOs σ u
theorem k_id_l (ty : kTY σ) (ow : OWN σ) (po : POT σ) {nm : List (List Int32)} (hw : WRD σ nm) {g M a n : Nat} (kg : σ.2.2.2.1 g = (21, M)) (hM : M ≤ 600000) (ha : a + n ≤ M) (hg : ¬ σ.2.2.1 48 0 = some g) (hcap : wd (σ.1 g) a n ∉ nm → sl nm + n ≤ 235000 ∧ nm.length + 2 ≤ 36000) (x2 x3 x4 x5 x6 : Int32) (e2 : x2 = nI a) (e4 : x4 = nI n) (e6 : x6 = hB (wd (σ.1 g) a n)) :
    ∀ (k : Nat) (s : Nat) (x7 x8 : Int32), k ≤ nm.length → s + k ≤ nm.length → x7 = lastB nm (hB (wd (σ.1 g) a n)).toNatClampNeg k → x8 = nI s → (∀ j, k ≤ j → ¬ nm[j]? = some (wd (σ.1 g) a n)) →
    kjY kPP (kQQ Y) (d + 4) 76 50 [some (.ref 48), some (.ref g), some (.int x2), some (.int x3), some (.int x4), some (.int x5), some (.int x6), some (.int x7), some (.int x8)] [] σ (idP σ nm (wd (σ.1 g) a n)) := by
  have hwo := hw
  obtain ⟨rb, NB, rs, NS, rc, ⟨b1, b2, b3, b3'⟩, ⟨s1, s2, s3, s4, s5, s5'⟩, a1, a2, a3, a4, a5, a6, a7, a8⟩ := hw
  have add : ∀ x7 x8, wd (σ.1 g) a n ∉ nm → kjY kPP (kQQ Y) (d + 4) 76 77 [some (.ref 48), some (.ref g), some (.int x2), some (.int x3), some (.int x4), some (.int x5), some (.int x6), some (.int x7), some (.int x8)] [] σ (idP σ nm (wd (σ.1 g) a n)) := by
    intro x7 x8 hx
    refine kjZ_y rfl rfl 6 _ _ _ _ ty ?_
    refine (And.intro (Nat.le_of_ble_eq_true rfl) (And.intro (Or.inl ⟨(Nat.le_of_ble_eq_true rfl), (ty.k (by decide) rfl)⟩) (And.intro (Nat.le_of_ble_eq_true rfl) (And.intro (Nat.le_of_ble_eq_true rfl) (kjY_mono ty (fun q_ u1 ty1 xu1 h_ => ?_) (k_add ty ow po hwo kg hM ha hg hx (hcap hx).1 (hcap hx).2 x6 x2 x4 e6 e2 e4))))))
    obtain ⟨rfl, q1, q2, q3, q4⟩ := h_
    intro _ _
    refine kjZ_y rfl rfl 1 _ _ _ _ ty1 ?_
    refine And.intro rfl (And.intro (Or.inl rfl) ?_)
    exact ⟨nm.length, nm ++ [wd (σ.1 g) a n], rfl, by rw [List.getElem?_append_right (Nat.le_refl _), Nat.sub_self]; rfl, Or.inr ⟨hx, rfl⟩, q1, q2, q3, q4⟩
  intro k
  induction k using Nat.strongRecOn with
  | _ k ih =>
    intro s x7 x8 hk hs e7 e8 hno
    rcases lastB_x nm (hB (wd (σ.1 g) a n)).toNatClampNeg k with ⟨l1, l2⟩ | ⟨j, l1, l2, l3, l4⟩
    · have hx : wd (σ.1 g) a n ∉ nm := by
        intro hm
        obtain ⟨j, hj⟩ := List.getElem?_of_mem hm
        by_cases c : j < k
        · refine l2 j c ?_
          rw [List.getD_eq_getElem?_getD, hj]; rfl
        · exact hno j (by omega) hj
      refine kjZ_y rfl rfl 4 _ _ _ _ ty ?_
      refine (And.intro (ty.k (by decide) rfl) (And.intro (fun c => ?_) (fun c => ?_)))
      · exact add x7 x8 hx
      · refine kjZ_y rfl rfl 2 _ _ _ _ ty ?_
        refine And.intro (fun c2 => ?_) (fun c2 => ?_)
        · exact add x7 x8 hx
        · refine absurd (show x7 < 0 from ?_) c2
          rw [e7, l1]; decide
    · have hjn : j < nm.length := by omega
      have e7j : x7 = nI j := e7.trans l2
      refine kjZ_y rfl rfl 4 _ _ _ _ ty ?_
      refine (And.intro (ty.k (by decide) rfl) (And.intro (fun c => ?_) (fun c => ?_)))
      · refine absurd (show σ.1 48 4 ≤ x8 from c) ?_
        rw [a2, e8, nle (by omega) (by omega)]; omega
      refine kjZ_y rfl rfl 2 _ _ _ _ ty ?_
      refine And.intro (fun c2 => ?_) (fun c2 => ?_)
      · exact absurd (show x7 < 0 from c2) (by rw [e7j]; exact nI_n0 (by omega))
      refine kjZ_y rfl rfl 5 _ _ _ _ ty ?_
      refine (And.intro (ty.k (by decide) rfl) (Exists.intro _ (And.intro s3 (Or.inl (And.intro (kdq s4) (And.intro (fun c3 => ?_) (fun c3 => ?_)))))))
      · refine absurd (show nI (σ.2.2.2.1 rc).2 ≤ x7 from c3) ?_
        rw [s4, e7j, nle (by omega) (by omega)]; omega
      obtain ⟨wj, hwj⟩ : ∃ wj, nm[j]? = some wj := ⟨nm[j], List.getElem?_eq_getElem hjn⟩
      refine kjZ_y rfl rfl 6 _ _ _ _ ty ?_
      refine (And.intro (Nat.le_of_ble_eq_true rfl) (And.intro (Or.inl ⟨(Nat.le_of_ble_eq_true rfl), (ty.k (by decide) rfl)⟩) (And.intro (Nat.le_of_ble_eq_true rfl) (And.intro (Nat.le_of_ble_eq_true rfl) (kjY_mono ty (fun q_ u1 ty1 xu1 h_ => ?_) (k_same ty hwo hwj kg ha hM x7 x2 x4 e7j e2 e4))))))
      obtain ⟨rfl, q1⟩ := h_
      intro _ _
      rcases q1 with ⟨rfl, q1⟩ | ⟨rfl, q1⟩
      · refine kjZ_y rfl rfl 1 _ _ _ _ ty1 ?_
        refine And.intro (fun c4 => ?_) (fun c4 => ?_)
        · exact absurd (show (1 : Int32) = 0 from c4) (by decide)
        refine kjZ_y rfl rfl 2 _ _ _ _ ty1 ?_
        refine And.intro rfl (And.intro (Or.inl rfl) ?_)
        exact ⟨j, nm, by rw [e7j], by rw [hwj, q1], Or.inl rfl, hwo, ow, po, Ch.rf⟩
      · refine kjZ_y rfl rfl 1 _ _ _ _ ty1 ?_
        refine And.intro (fun c4 => ?_) (fun c4 => ?_)
        · have vj : vp_in x7 NS := by rw [e7j]; exact vp_in_nI (by omega) (by omega)
          refine kjZ_y rfl rfl 7 _ _ _ _ ty1 ?_
          refine (And.intro (ty1.k (by decide) rfl) (Exists.intro _ (And.intro s3 (Or.inl (And.intro (kdk s4) (And.intro (kdv s4 vj) (And.intro (Nat.le_of_ble_eq_true rfl) ?_)))))))
          have cj : x7.toNatClampNeg = j := by rw [e7j]; exact nI_clamp (by omega)
          refine ih j l1 (s + 1) (u1.1 rc x7.toNatClampNeg) (x8 + Int32.ofInt 1) (by omega) (by omega) ?_ (by rw [e8]; exact nI_1 s) (fun i hi hi2 => ?_)
          · rw [cj, a8 j hjn, l3]
          · by_cases z : i = j
            · rw [z, hwj] at hi2; cases hi2; exact q1 rfl
            · by_cases z2 : i < k
              · refine l4 i (by omega) z2 ?_
                rw [List.getD_eq_getElem?_getD, hi2]; rfl
              · exact hno i (by omega) hi2
        · exact absurd rfl c4
theorem k_idOf (ty : kTY σ) (ow : OWN σ) (po : POT σ) {nm : List (List Int32)} (hw : WRD σ nm) {g M a n : Nat} (kg : σ.2.2.2.1 g = (21, M)) (hM : M ≤ 600000) (ha : a + n ≤ M) (hg : ¬ σ.2.2.1 48 0 = some g) (hcap : wd (σ.1 g) a n ∉ nm → sl nm + n ≤ 235000 ∧ nm.length + 2 ≤ 36000) (x2 x3 : Int32) (e2 : x2 = nI a) (e3 : x3 = nI n) :
    kjY kPP (kQQ Y) (d + 4) 76 0 (mjL0 9 [.ref 48, .ref g, .int x2, .int x3]) [] σ (idP σ nm (wd (σ.1 g) a n)) := by
  have vh := hB_lt (wd (σ.1 g) a n)
  have hh : (hB (wd (σ.1 g) a n)).toNatClampNeg < 1024 := Nat.lt_of_not_le (fun z => vh (Or.inr z))
  have hwo := hw
  obtain ⟨rb, NB, rs, NS, rc, ⟨b1, b2, b3, b3'⟩, ⟨s1, s2, s3, s4, s5, s5'⟩, a1, a2, a3, a4, a5, a6, a7, a8⟩ := hw
  refine kjZ_y rfl rfl 2 _ _ _ _ ty ?_
  refine And.intro (fun c => ?_) (fun c => ?_)
  · exact absurd (show x2 < 0 from c) (by rw [e2]; exact nI_n0 (by omega))
  refine kjZ_y rfl rfl 2 _ _ _ _ ty ?_
  refine And.intro (fun c2 => ?_) (fun c2 => ?_)
  · exact absurd (show x3 < 0 from c2) (by rw [e3]; exact nI_n0 (by omega))
  refine kjZ_y rfl rfl 6 _ _ _ _ ty ?_
  refine (Or.inl (And.intro (kdq kg) (And.intro (fun c3 => ?_) (fun c3 => ?_))))
  rotate_left
  · refine absurd (show x3 ≤ nI (σ.2.2.2.1 g).2 - x2 from ?_) c3
    rw [kg, e2, e3, pk_sub (by omega), nle (by omega) (by omega)]; omega
  refine kjZ_y rfl rfl 6 _ _ _ _ ty ?_
  refine (And.intro (Nat.le_of_ble_eq_true rfl) (And.intro (Nat.le_of_ble_eq_true rfl) (And.intro (Nat.le_of_ble_eq_true rfl) ?_)))
  refine k_mix_l _ ty kg ha hM x2 x3 x3 e2 e3 ?_ n 0 x3 _ (by omega) rfl e3
  refine kjZ_y rfl rfl 17 _ _ _ _ ty ?_
  refine (And.intro (Nat.le_of_ble_eq_true rfl) (And.intro (ty.k (by decide) rfl) (Or.inl (And.intro (ty.k (by decide) rfl) (And.intro (kdw ty (by decide) rfl vh) (And.intro (Nat.le_of_ble_eq_true rfl) (And.intro (Nat.le_of_ble_eq_true rfl) ?_)))))))
  refine k_id_l ty ow po hwo kg hM ha hg hcap x2 x3 x3 _ _ e2 e3 rfl nm.length 0 _ _ (Nat.le_refl _) (by omega) ?_ rfl (fun j hj hj2 => ?_)
  · show σ.1 52 (hB (wd (σ.1 g) a n)).toNatClampNeg - Int32.ofInt 1 = _
    rw [a7 _ hh]; exact Int32.add_sub_cancel _ _
  · have := (List.getElem?_eq_some_iff.mp hj2).1; omega
end KADD2
