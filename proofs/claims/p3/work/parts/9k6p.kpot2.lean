/-! The pot: a word comes to it. -/
def fdF (v : List Int32) (ms : List (List Int32)) : Bool := match ms[plF ms v]? with
  | some q => decide (cmpW q v = 0)
  | none => false
def adW (v : List Int32) (ms : List (List Int32)) : List (List Int32) := if fdF v ms = true then ms else insL ms (plF ms v) v
theorem fdR_F (v : List Int32) (ms : List (List Int32)) : fdR ms v = if fdF v ms = true then nI (plF ms v) else -1 - nI (plF ms v) := by
  unfold fdR fdF
  cases ms[plF ms v]? with
  | none => rfl
  | some q =>
    show (if cmpW q v = 0 then _ else _) = if decide (cmpW q v = 0) = true then _ else _
    by_cases c : cmpW q v = 0
    · rw [if_pos c, if_pos (decide_eq_true c)]
    · rw [if_neg c, if_neg (by rw [decide_eq_false c]; exact Bool.false_ne_true)]
section KPOT2
variable {Y : Nat → MethodName × ByteArray} {d : Nat} {σ0 σ u : kS} {B ws nm nm' : List (List Int32)} {ks : List KC}
theorem PTT.poo {ms : List (List Int32)} (h : PTT σ nm ms) : POO σ := by
  obtain ⟨g, N, h1, h2, h3, h4, h5, h6, h7⟩ := h
  exact ⟨g, N, ms.length, h1, h2, h3, h4, h5, h6⟩
theorem KWd.pot (ty : kTY σ) (w : KWd σ0 B σ ws nm ks) (ch : Ch false [(71, 4), (71, 5)] [(71, 4)] σ u) (ow : OWN u) (po : POT u) (h : POO u) : KWd σ0 B u ws nm ks ∧ SCl scA σ u := by
  have hw := w
  obtain ⟨w1, w2, w3, w4, ⟨fr, vs, w5, w5'⟩, w6, w7, w8, w9⟩ := w
  have q0 : ∀ p ∈ [((71, 4) : Nat × Nat), (71, 5)], p ∈ kcF := by decide +kernel
  have q1 : ∀ p ∈ [((71, 4) : Nat × Nat)], p ∈ kcO := by decide +kernel
  refine ⟨hw.gen ty ch q0 q1 ⟨ow, po⟩ ⟨w3.1.fr ty w2.1 ch (by decide) (by decide), w3.2⟩ ⟨fr, vs, w5.fr ty w2.1 ch (by decide) (by decide), w5'⟩ (fun c hc => ?_) h, ch.sc ty (fun p hp => ⟨(scA_ok p hp).1, (scA_ok p hp).2.1, ?_⟩)⟩
  · obtain ⟨l', hl'⟩ := w6 c hc
    have q : ∀ c ∈ ANn, ¬ (71 : Nat) = c := by decide
    exact ⟨l', hl'.fr ty w2.1 (ANn_b c hc).1 ch (fun p hp => by
      rcases List.mem_cons.mp hp with z | z
      · rw [z]; exact q c hc
      · rw [List.mem_singleton.mp z]; exact q c hc) (fun p hp => by rw [List.mem_singleton.mp hp]; exact ⟨by decide, q c hc⟩)⟩
  · have q : ∀ p ∈ scA, ¬ p ∈ [((71, 4) : Nat × Nat), (71, 5)] := by decide +kernel
    exact q p hp
/-- the pot's row and size are set -/
theorem KWd.potS (ty : kTY σ) (w : KWd σ0 B σ ws nm ks) {g N k : Nat} (h1 : σ.2.2.1 71 4 = some g) (h2 : σ.2.2.2.1 g = (20, N)) (h3 : 64 ≤ N ∧ N ≤ 17400) (f : Nat → Int32) (hk : k ≤ N) (e : u = (mjIu (kUp σ.1 g f) 71 5 (nI k), σ.2)) : KWd σ0 B u ws nm ks ∧ SCl scA σ u := by
  have k71 : (σ.2.2.2.1 71).1 = 7 := ty.k (by decide) rfl
  have ng : ¬ g = 71 := fun z => by rw [z] at h2; rw [h2] at k71; exact absurd (show (20 : Nat) = 7 from k71) (by decide)
  have nb : ∀ b ∈ OWb, ¬ g = b := fun b hb z => by
    have := ob_k ty hb; rw [← z, h2] at this; exact absurd (show (20 : Nat) = 0 from this) (by decide)
  have n59 : ¬ g = 59 := fun z => by
    have k59 : (σ.2.2.2.1 59).1 = 4 := ty.k (by decide) rfl
    rw [z] at h2; rw [h2] at k59; exact absurd (show (20 : Nat) = 4 from k59) (by decide)
  have c1 : Ch false [(71, 4), (71, 5)] [(71, 4)] σ (kUp σ.1 g f, σ.2) := (Ch_ra (p := (71, 4)) h1 (by rw [h2]; exact Nat.le_refl 20)).up (fun z => z) (by simp) (by simp)
  have c2 : Ch false [(71, 4), (71, 5)] [(71, 4)] (kUp σ.1 g f, σ.2) u := by
    rw [e]
    exact (Ch_i (σ := (kUp σ.1 g f, σ.2)) (show (σ.2.2.2.1 71).1 < 20 by rw [k71]; decide)).up (fun z => z) (by simp) (by simp)
  have ch := Ch.tr ty (by decide) c1 c2
  have eI : ∀ h x, ¬ (h = 71 ∧ x = 5) → ¬ h = g → u.1 h x = σ.1 h x := fun h x z1 z2 => by
    rw [e]; show mjIu (kUp σ.1 g f) 71 5 (nI k) h x = _; rw [mjIu_at, if_neg z1, kUp_n z2]
  refine w.pot ty ch (w.2.1.1.same (fun p _ => by rw [e])) (w.2.1.2.same (fun p hp => by unfold kl; rw [e]) (fun b hb => ?_) ?_ (by rw [e]; exact ⟨rfl, rfl⟩)) ⟨g, N, k, by rw [e]; exact h1, by rw [e]; exact h2, h3.1, h3.2, ?_, hk⟩
  · have q : ∀ b ∈ OWb, ¬ b = 71 := by decide
    exact eI b 2 (fun z => q b hb z.1) (fun z => nb b hb z.symm)
  · exact eI 59 6 (fun z => absurd z.1 (by decide)) (fun z => n59 z.symm)
  · rw [e]; show mjIu (kUp σ.1 g f) 71 5 (nI k) 71 5 = _; rw [mjIu_at, if_pos ⟨rfl, rfl⟩]
set_option maxHeartbeats 1000000 in
theorem kx_pot29 (K : kK) (ty : kTY σ) (w : KWd σ0 B σ ws nm ks) {ms : List (List Int32)} (hp : PTT σ nm ms) (hl : ms.length < 8700) {p k : Nat} {v : List Int32} (hpl : p ≤ ms.length) (hk : nm[k]? = some v) (o1 : Value) (x2 x3 x4 x5 : Int32) (e4 : x4 = nI k) (e5 : x5 = nI p)
    (hK : ∀ u, kTY u → kEx σ u → KWd σ0 B u ws nm ks → SCl scA σ u → PTT u nm (insL ms p v) → kjY kPP (kQQ Y) (d + 3) 226 71 [some (.ref 71), some o1, some (.int x2), some (.int x3), some (.int x4), some (.int x5)] [] u K) :
    kjY kPP (kQQ Y) (d + 3) 226 29 [some (.ref 71), some o1, some (.int x2), some (.int x3), some (.int x4), some (.int x5)] [] σ K := by
  have ep1 : x5 + Int32.ofInt 1 = nI (p + 1) := by rw [e5]; exact nI_1 p
  -- room is there
  have go47 : ∀ u, kTY u → kEx σ u → KWd σ0 B u ws nm ks → SCl scA σ u → ∀ g N, u.2.2.1 71 4 = some g → u.2.2.2.1 g = (20, N) → 64 ≤ N → N ≤ 17400 → u.1 71 5 = nI ms.length → ms.length < N → IDS (u.1 g) nm ms → kjY kPP (kQQ Y) (d + 3) 226 47 [some (.ref 71), some o1, some (.int x2), some (.int x3), some (.int x4), some (.int x5)] [] u K := by
    intro u tu xu wu su g N f1 f2 f3 f4 f5 f6 f7
    have k71 : (u.2.2.2.1 71).1 = 7 := tu.k (by decide) rfl
    have ng : ¬ g = 71 := fun z => by rw [z] at f2; rw [f2] at k71; exact absurd (show (20 : Nat) = 7 from k71) (by decide)
    have ecp : u.1 71 5 - x5 = nI (ms.length - p) := by rw [f5, e5, pk_sub hpl]
    have vp : vp_in x5 N := by rw [e5]; exact vp_in_nI (by omega) (by omega)
    have cp : x5.toNatClampNeg = p := by rw [e5]; exact nI_clamp (by omega)
    refine kjZ_y rfl rfl 13 _ _ _ _ tu ?_
    refine (And.intro (tu.k (by decide) rfl) (Exists.intro _ (And.intro f1 (And.intro (tu.k (by decide) rfl) (Exists.intro _ (And.intro f1 (And.intro (tu.k (by decide) rfl) (Exists.intro p (Exists.intro (p + 1) (Exists.intro (ms.length - p) (And.intro ⟨e5, ep1, ecp⟩ (And.intro ⟨rfl, by rw [f2]; show _ ≤ N; omega, by rw [f2]; show _ ≤ N; omega⟩ (And.intro ⟨(Nat.le_of_ble_eq_true rfl), (Nat.le_of_ble_eq_true rfl)⟩ (Or.inl (And.intro (Or.inl (kdk f2)) (fun tu' => ?_))))))))))))))))
    have go60 : ∀ u1, kTY u1 → u1 = (kUp u.1 g (va_cpy (u.1 g) (u.1 g) p (p + 1) (ms.length - p)), u.2) → kjY kPP (kQQ Y) (d + 3) 226 60 [some (.ref 71), some o1, some (.int x2), some (.int x3), some (.int x4), some (.int x5)] [] u1 K := by
      intro u1 t1 eu1
      have l1 : u1.2.2.1 71 4 = some g := by rw [eu1]; exact f1
      have l2 : u1.2.2.2.1 g = (20, N) := by rw [eu1]; exact f2
      refine kjZ_y rfl rfl 11 _ _ _ _ t1 ?_
      refine (And.intro (t1.k (by decide) rfl) (Exists.intro _ (And.intro l1 (And.intro (kdk l2) (And.intro (kdv l2 vp) (fun t1' => (And.intro (t1'.k (by decide) rfl) (And.intro (t1'.k (by decide) rfl) (And.intro (Or.inl rfl) (fun t1'' => ?_))))))))))
      have go71 : ∀ z, kTY z → z = (mjIu (mjIu u1.1 g x5.toNatClampNeg x4) 71 5 ((mjIu u1.1 g x5.toNatClampNeg x4) 71 5 + Int32.ofInt 1), u1.2) → kjY kPP (kQQ Y) (d + 3) 226 71 [some (.ref 71), some o1, some (.int x2), some (.int x3), some (.int x4), some (.int x5)] [] z K := by
        intro z tz ez
        have e13 : (mjIu u1.1 g x5.toNatClampNeg x4) 71 5 + Int32.ofInt 1 = nI (ms.length + 1) := by
          rw [mjIu_n (fun y => ng y.symm), eu1]; show kUp u.1 g _ 71 5 + _ = _
          rw [kUp_n (fun y => ng y.symm), f5]; exact nI_1 _
        rw [e13, cp] at ez
        have ez2 : z = (mjIu (kUp u.1 g (upd (va_cpy (u.1 g) (u.1 g) p (p + 1) (ms.length - p)) p x4)) 71 5 (nI (ms.length + 1)), u.2) := by
          rw [ez, eu1]
          show (mjIu (mjIu (kUp u.1 g _) g p x4) 71 5 _, u.2) = _
          rw [mjIu_up (f := kUp u.1 g _), kUp_s]
          congr 2
          funext h
          by_cases c : h = g
          · rw [c, kUp_s, kUp_s]
          · rw [kUp_n c, kUp_n c, kUp_n c]
        obtain ⟨wz, sz⟩ := wu.potS tu f1 f2 ⟨f3, f4⟩ _ (by omega) ez2
        have xz : kEx u z := by rw [ez2]; exact kEx.rf
        refine hK z tz (xu.tr xz) wz (su.tr sz) ⟨g, N, by rw [ez2]; exact f1, by rw [ez2]; exact f2, f3, f4, ?_, by rw [insL_len]; omega, ?_⟩
        · rw [ez2]; show mjIu (kUp u.1 g (upd (va_cpy (u.1 g) (u.1 g) p (p + 1) (ms.length - p)) p x4)) 71 5 (nI (ms.length + 1)) 71 5 = _; rw [mjIu_at, if_pos ⟨rfl, rfl⟩, insL_len]
        · intro j q hq
          have hz : z.1 g j = if j = p then x4 else va_cpy (u.1 g) (u.1 g) p (p + 1) (ms.length - p) j := by
            rw [ez2]; show mjIu (kUp u.1 g _) 71 5 _ g j = _
            rw [mjIu_n ng, kUp_s]
            by_cases c : j = p
            · rw [if_pos c, c, pk_us]
            · rw [if_neg c, pk_un c]
          rw [hz]
          rw [insL_get hpl] at hq
          by_cases y : j < p
          · rw [if_pos y] at hq; rw [if_neg (by omega), pk_cpy_out (Or.inl (by omega))]; exact f7 j q hq
          · rw [if_neg y] at hq
            by_cases y2 : j = p
            · rw [if_pos y2] at hq ⊢; cases hq; exact ⟨k, e4, hk⟩
            · rw [if_neg y2] at hq ⊢
              have hj := (List.getElem?_eq_some_iff.mp hq).1
              rw [pk_cpy_in (by omega) (by omega), show p + (j - (p + 1)) = j - 1 by omega]; exact f7 _ q hq
      exact go71 _ t1'' rfl
    exact go60 _ tu' rfl
  obtain ⟨g, N, h1, h2, h3, h4, h5, h6, h7⟩ := hp
  have kg : (σ.2.2.2.1 g).1 = 20 := by rw [h2]
  refine kjZ_y rfl rfl 7 _ _ _ _ ty ?_
  refine (And.intro (ty.k (by decide) rfl) (And.intro (ty.k (by decide) rfl) (Exists.intro _ (And.intro h1 (Or.inl (And.intro (kdq h2) (And.intro (fun c => ?_) (fun c => ?_))))))))
  · -- it grows
    have c : nI (σ.2.2.2.1 g).2 ≤ σ.1 71 5 := c
    rw [h2, h5, nle (by omega) (by omega)] at c
    have hN : ms.length = N := Nat.le_antisymm h6 c
    have ek : kl σ (71, 4) = N := by unfold kl; show (σ.2.2.2.1 ((σ.2.2.1 71 4).getD 0)).2 = N; rw [h1]; show (σ.2.2.2.1 g).2 = N; rw [h2]
    have hpay := POT.pay (p := (71, 4)) (c := ms.length + 1) (N := 2 * N) (by decide) w.2.1.2 (by rw [ek]; omega) (by show _ ≤ 8700; omega) (by rw [ek]; omega)
    have ez : Int32.ofInt 2 * σ.1 71 5 = nI (2 * N) := by rw [h5, hN, nI_2]
    refine kjZ_y rfl rfl 7 _ _ _ _ ty ?_
    refine (And.intro (ty.k (by decide) rfl) (Exists.intro _ (And.intro h1 (And.intro (ty.k (by decide) rfl) (And.intro (Nat.le_of_ble_eq_true rfl) (And.intro (Nat.le_of_ble_eq_true rfl) (And.intro (Nat.le_of_ble_eq_true rfl) (kjY_mono ty (fun q_ u3 ty3 xu3 h_ => ?_) (k_copyI ty g N (2 * N) h2 _ ez (by omega) (by omega) hpay.2.1 hpay.1)))))))))
    obtain ⟨rfl, eu⟩ := h_
    intro _ _
    have kn3 : (u3.2.2.2.1 σ.2.2.2.2.1).1 = 20 := by rw [eu]; show (kUp σ.2.2.2.1 σ.2.2.2.2.1 (20, _) σ.2.2.2.2.1).1 = 20; rw [kUp_s]
    refine kjZ_y rfl rfl 1 _ _ _ _ ty3 ?_
    refine (And.intro (ty3.k (by decide) rfl) (And.intro (Or.inl ⟨rfl, by assumption⟩) (fun ty3' => ?_)))
    have go2 : ∀ u, kTY u → grP σ (71, 4) g N (2 * N) 20 u → kjY kPP (kQQ Y) (d + 3) 226 47 [some (.ref 71), some o1, some (.int x2), some (.int x3), some (.int x4), some (.int x5)] [] u K := by
      intro u tu gp
      have pu := gr_pot (c := ms.length + 1) ty (by decide) w.2.1.2 h1 h2 (by show _ ≤ 8700; omega) (by omega) gp
      have ou := gr_ow ty w.2.1.1 gp
      have cu := gr_ch (vs := false) ty (by decide) gp
      have t76 := ty.2.2.2.1
      obtain ⟨g1, g2, g3, g4, g5, g6, g7, g8⟩ := gp
      have e5' : u.1 71 5 = nI ms.length := by rw [(g4 71 (by omega)).1]; exact h5
      obtain ⟨wu, su⟩ := w.pot ty (cu.up (fun z => z) (by simp) (by simp)) ou pu ⟨σ.2.2.2.2.1, 2 * N, ms.length, g1, g2, by omega, by omega, e5', by omega⟩
      exact go47 u tu g6 wu su σ.2.2.2.2.1 (2 * N) g1 g2 (by omega) (by omega) e5' (by omega) (fun i q hq => by
        rw [g3 i (by have := (List.getElem?_eq_some_iff.mp hq).1; omega)]; exact h7 i q hq)
    refine go2 _ ty3' ?_
    rw [eu]
    exact gr_of (p := (71, 4)) ty (ty.lr h2 (by decide)) ⟨hpay.2.1, hpay.1⟩
  · have c : ¬ nI (σ.2.2.2.1 g).2 ≤ σ.1 71 5 := c
    rw [h2, h5, nle (by omega) (by omega)] at c
    refine kjZ_y rfl rfl 4 _ _ _ _ ty ?_
    refine (And.intro (ty.k (by decide) rfl) (Exists.intro _ (And.intro h1 (And.intro (ty.k (by decide) rfl) (And.intro (Or.inl ⟨rfl, by assumption⟩) (fun ty' => ?_))))))
    have e : (σ.1, σ.2.1, kFu σ.2.2.1 71 4 (some g), σ.2.2.2) = σ := by
      have : kFu σ.2.2.1 71 4 (some g) = σ.2.2.1 := by
        funext h x
        rw [kFu_at]
        by_cases z : h = 71 ∧ x = 4
        · rw [if_pos z, z.1, z.2, h1]
        · rw [if_neg z]
      rw [this]
    have go : ∀ u, u = σ → kjY kPP (kQQ Y) (d + 3) 226 47 [some (.ref 71), some o1, some (.int x2), some (.int x3), some (.int x4), some (.int x5)] [] u K := fun u eu => by
      rw [eu]; exact go47 σ ty kEx.rf w SCl.rf g N h1 h2 h3 h4 h5 (by omega) h7
    exact go _ e
end KPOT2
