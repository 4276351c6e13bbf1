/-! The log is written anew. -/
/-- what may be told of each key -/
def TLo (ks : List KC) : Prop := ∀ y ∈ ks, (∃ k, k ≤ 4 ∧ y.2.2.2.2.2.2.1 = nI k) ∧ (¬ y.2.2.2.2.2.2.2.1 = 0 → ¬ y.2.2.2.2.2.2.2.2.1 = NEV)
section KREWRITE
variable {Y : Nat → MethodName × ByteArray} {d : Nat} {σ u : kS} {B ws nmm nmm' : List (List Int32)} {ks ks' : List KC}
theorem dmR_app (a b : List AK) : dmR (a ++ b) = dmR a ++ dmR b := by unfold dmR; exact List.flatMap_append
theorem kx_rewrite_l (K : kK) {b : Nat} (hb : b ∈ [5, 7]) (ts : kTY σ) (h11 : σ.2.2.1 0 11 = some b) {ks : List KC} (hT : TLo ks) (hn : ks.length ≤ 2600) (hl : (encs (dmR (skA ks))).length ≤ 210000)
    (hK : ∀ v x1, kTY v → KG B v nmm ks → (kBY v b (encs (dmR (skA ks))) ∧ v.1 b 3 = 0) → Ch false (jnF b) [(b, 1)] σ v → kjY kPP (kQQ Y) (d + 9) 14 27 [some (.ref 0), some (.int x1)] [] v K) :
    ∀ (R P : List KC) (x1 : Int32) (u : kS), P ++ R = ks → x1 = nI P.length → kTY u → KG B u nmm ks → (kBY u b (encs (dmR (skA P))) ∧ u.1 b 3 = 0) → Ch false (jnF b) [(b, 1)] σ u →
    kjY kPP (kQQ Y) (d + 9) 14 10 [some (.ref 0), some (.int x1)] [] u K := by
  intro R
  induction R with
  | nil =>
    intro P x1 u hp e1 tu gu ju cu
    have hp : P = ks := by rw [← hp, List.append_nil]
    obtain ⟨c1, -⟩ := gu.2.2.1.cnt
    refine kjZ_y rfl rfl 5 _ _ _ _ tu ?_
    refine (And.intro (tu.k (by decide) rfl) (And.intro (tu.k (by decide) rfl) (And.intro (fun q => ?_) (fun q => ?_))))
    rotate_left
    · exact absurd (show u.1 59 13 ≤ x1 by rw [c1, e1, hp]; exact Int32.le_refl _) q
    exact hK u x1 tu gu (by rw [← hp]; exact ju) cu
  | cons y R ih =>
    intro P x1 u hp e1 tu gu ju cu
    obtain ⟨c1, -⟩ := gu.2.2.1.cnt
    have hlen : P.length + R.length + 1 = ks.length := by rw [← hp, List.length_append, List.length_cons]; omega
    have gu' : KG B u nmm (P ++ y :: R) := by rw [hp]; exact gu
    obtain ⟨⟨k, k1, k2⟩, k3⟩ := hT y (by rw [← hp]; exact List.mem_append_right _ List.mem_cons_self)
    have f11 := gj_11 hb ts cu h11
    have e2 : encs (dmR (skA (P ++ [y]))) = encs (dmR (skA P)) ++ encs (dkR y.2.2.2.2.2) := by
      rw [skA_app, dmR_app, encs_app']
      show _ ++ encs (dmR [y.2.2.2.2.2]) = _
      congr 2; unfold dmR; exact List.append_nil _
    have hl1 : (encs (dmR (skA P)) ++ encs (dkR y.2.2.2.2.2)).length ≤ 210000 := by
      have e3 : ks = (P ++ [y]) ++ R := by rw [← hp, List.append_assoc]; rfl
      rw [e3, skA_app, dmR_app, encs_app', List.length_append, e2] at hl; omega
    refine kjZ_y rfl rfl 5 _ _ _ _ tu ?_
    refine (And.intro (tu.k (by decide) rfl) (And.intro (tu.k (by decide) rfl) (And.intro (fun q => ?_) (fun q => ?_))))
    · exact absurd (show u.1 59 13 ≤ x1 from q) (by rw [c1, e1, nle (by omega) (by omega)]; omega)
    refine kjZ_y rfl rfl 5 _ _ _ _ tu ?_
    refine (And.intro (tu.k (by decide) rfl) (And.intro (Nat.le_of_ble_eq_true rfl) (And.intro (Or.inl ⟨(Nat.le_of_ble_eq_true rfl), (tu.k (by decide) rfl)⟩) (And.intro (Nat.le_of_ble_eq_true rfl) (And.intro (Nat.le_of_ble_eq_true rfl) (kjY_mono tu (fun q_ u1 ty1 xu1 h_ => ?_) (kG_id (d := d + 8) tu gu' _ e1)))))))
    obtain ⟨rfl, rfl⟩ := h_
    intro _ _
    refine kjZ_y rfl rfl 4 _ _ _ _ ty1 ?_
    refine (And.intro (ty1.k (by decide) rfl) (And.intro (Nat.le_of_ble_eq_true rfl) (And.intro (Or.inl ⟨(Nat.le_of_ble_eq_true rfl), (ty1.k (by decide) rfl)⟩) (And.intro (Nat.le_of_ble_eq_true rfl) (And.intro (Nat.le_of_ble_eq_true rfl) (kjY_mono ty1 (fun q_ u2 ty2 xu2 h_ => ?_) (kG_val (d := d + 8) ty1 gu' _ e1)))))))
    obtain ⟨rfl, rfl⟩ := h_
    intro _ _
    obtain ⟨y1, -, -⟩ := gu'.at_
    have kv : (u2.2.2.2.1 y.1).1 = 11 := by rw [y1]
    refine kjZ_y rfl rfl 1 _ _ _ _ ty2 ?_
    refine (And.intro (Nat.le_of_ble_eq_true rfl) (And.intro (Or.inl ⟨(Nat.le_of_ble_eq_true rfl), (ty2.k (by decide) rfl)⟩) (And.intro (Nat.le_of_ble_eq_true rfl) (And.intro (Nat.le_of_ble_eq_true rfl) (kjY_mono ty2 (fun q_ u3 ty3 xu3 h_ => ?_) (kG_tellKey (d := d) ty2 gu' hb f11 k1 k2 k3 ju _ rfl hl1))))))
    obtain ⟨rfl, g3, j3, c3⟩ := h_
    intro _ _
    refine kjZ_y rfl rfl 2 _ _ _ _ ty3 ?_
    refine ih (P ++ [y]) _ u3 (by rw [List.append_assoc]; exact hp) (by rw [e1, List.length_append]; exact nI_1 P.length) ty3 (by rw [← hp]; exact g3) (by rw [e2]; exact j3) (gj_ch hb ts cu c3)
def rwF (b : Nat) : List (Nat × Nat) := (0, 16) :: (jnF b ++ haF)
def rwO (b : Nat) : List (Nat × Nat) := (b, 1) :: haO
def rwG (b : Nat) : List (Nat × Nat) := (0, 16) :: jnF b
theorem rw_in : ∀ b ∈ [5, 7], (∀ p ∈ jnF b, p ∈ rwF b) ∧ (∀ p ∈ haF, p ∈ rwF b) ∧ (0, 16) ∈ rwF b ∧ (∀ p ∈ [((b : Nat), (1 : Nat))], p ∈ rwO b) ∧ (∀ p ∈ haO, p ∈ rwO b) ∧ (∀ p ∈ rwO b, p ∈ OWs) := by decide +kernel
/-- what a new log leaves: nothing done, or the server gone, or the two logs have changed places -/
def rwrP (B : List (List Int32)) (b b' : Nat) (σ : kS) (nmm : List (List Int32)) (ks : List KC) : kK := fun r z => (∃ y, r = some (.int y)) ∧ ((z = σ ∧ σ.1 0 17 = 0) ∨ (KG B z [] [] ∧ (∀ c ∈ CNs, CLRd z c) ∧ BLJ z ∧ z.1 0 17 = 0 ∧ z.1 0 13 = 0 ∧ Ch true (rwF b') (rwO b') σ z) ∨ (KG B z nmm ks ∧ (kBY z b' (encs (dmR (skA ks))) ∧ z.1 b' 3 = 0) ∧ z.2.2.1 0 10 = some b' ∧ z.2.2.1 0 11 = some b ∧ ∃ v, Ch true (rwG b') [(b', 1)] σ v ∧ z = (v.1, v.2.1, kFu (kFu v.2.2.1 0 10 (some b')) 0 11 (some b), v.2.2.2)))
theorem kx_rewrite (ty : kTY σ) (g : KG B σ nmm ks) (hj : BLJ σ) {b b' : Nat} (hb : b ∈ [5, 7]) (hb' : b' ∈ [5, 7]) (h10 : σ.2.2.1 0 10 = some b) (h11 : σ.2.2.1 0 11 = some b') (hT : TLo ks) (hl : (encs (dmR (skA ks))).length ≤ 210000) : kjY kPP (kQQ Y) (d + 9) 14 0 (mjL0 2 [.ref 0]) [] σ (rwrP B b b' σ nmm ks) := by
  obtain ⟨b1, b2, b3, b4, b5⟩ := J_ok b' hb'
  have b1a := (J_ok b hb).1
  obtain ⟨i1, i2, i3, i4, i5, i6⟩ := rw_in b' hb'
  obtain ⟨c1, c2⟩ := g.2.2.1.cnt
  have kb := ob_k ty b1
  refine kjZ_y rfl rfl 3 _ _ _ _ ty ?_
  refine (And.intro (ty.k (by decide) rfl) (And.intro (fun q => ?_) (fun q => ?_)))
  rotate_left
  · refine kjZ_y rfl rfl 2 _ _ _ _ ty ?_
    refine And.intro rfl (And.intro (Or.inl rfl) ?_)
    exact ⟨⟨_, rfl⟩, Or.inl ⟨rfl, Decidable.not_not.mp q⟩⟩
  refine kjZ_y rfl rfl 3 _ _ _ _ ty ?_
  refine (And.intro (ty.k (by decide) rfl) (Exists.intro _ (And.intro h11 (And.intro (Nat.le_of_ble_eq_true rfl) (And.intro (Or.inl ⟨(Nat.le_of_ble_eq_true rfl), (by assumption)⟩) (And.intro (Nat.le_of_ble_eq_true rfl) (And.intro (Nat.le_of_ble_eq_true rfl) (kjY_mono ty (fun q_ u1 ty1 xu1 h_ => ?_) (k_empty ty b' kb)))))))))
  obtain ⟨rfl, eu1⟩ := h_
  intro _ _
  obtain ⟨g1, e1, f1, o1⟩ := g.em ty b1 eu1
  have e12 : u1.2 = σ.2 := by rw [eu1]
  have ch1 : Ch false (jnF b') [(b', 1)] σ u1 := by
    have k0 : (σ.2.2.2.1 b').1 = 0 := ob_k ty b1
    have t1 : Ch false (jnF b') [(b', 1)] σ (mjIu σ.1 b' 2 0, σ.2) := (Ch_i (by rw [k0]; decide)).up (fun z => z) (fun p hp => by rw [List.mem_singleton.mp hp]; exact List.mem_cons_of_mem _ List.mem_cons_self) (fun p hp => by cases hp)
    have t2 : Ch false (jnF b') [(b', 1)] (mjIu σ.1 b' 2 0, σ.2) u1 := by
      rw [eu1]; exact (Ch_i (σ := (mjIu σ.1 b' 2 0, σ.2)) (show (σ.2.2.2.1 b').1 < 20 by rw [k0]; decide)).up (fun z => z) (fun p hp => by rw [List.mem_singleton.mp hp]; exact List.mem_cons_of_mem _ (List.mem_cons_of_mem _ List.mem_cons_self)) (fun p hp => by cases hp)
    exact gj_ch hb' ty t1 t2
  refine kjZ_y rfl rfl 2 _ _ _ _ ty1 ?_
  refine (And.intro (Nat.le_of_ble_eq_true rfl) ?_)
  refine kx_rewrite_l _ hb' ty h11 hT c2 hl (fun v x1 tv gv jv cv => ?_) ks [] _ u1 rfl rfl ty1 g1 ⟨e1, f1⟩ ch1
  have f10v : v.2.2.1 0 10 = some b := by
    have n10 : ∀ b ∈ [5, 7], ¬ (0, 10) ∈ jnF b := by decide
    rw [(cv.fld ty (h := 0) (x := 10) (c := 9) (by decide) rfl (by decide) (n10 b' hb')).2.2]; exact h10
  have f11v := gj_11 hb' ty cv h11
  have bj : BLJ v := hj.e2f ty cv (fun c hc z => by
    have q : ∀ c ∈ CNs, ∀ b ∈ [5, 7], ¬ (c, 3) ∈ jnF b := by decide +kernel
    exact q c hc b' hb' z)
  have cw : Ch true (rwF b') (rwO b') σ v := cv.up (fun _ => rfl) i1 i4
  have cwg : Ch true (rwG b') [(b', 1)] σ v := cv.up (fun _ => rfl) (fun p hp => List.mem_cons_of_mem _ hp) (fun p hp => hp)
  have i6g : ∀ p ∈ [((b' : Nat), (1 : Nat))], p ∈ OWs := fun p hp => i6 p (i4 p hp)
  have kbv := ob_k tv b1
  -- the two logs change places
  have swp : ∀ w, kTY w → KG B w nmm ks → (kBY w b' (encs (dmR (skA ks))) ∧ w.1 b' 3 = 0) → w.2.2.1 = v.2.2.1 → Ch true (rwG b') [(b', 1)] σ w → kjY kPP (kQQ Y) (d + 9) 14 54 [some (.ref 0), some (.int x1)] [] w (rwrP B b b' σ nmm ks) := by
    intro w tw gw jw ef cw'
    have f10w : w.2.2.1 0 10 = some b := by rw [ef]; exact f10v
    have f11w : w.2.2.1 0 11 = some b' := by rw [ef]; exact f11v
    have kw := ob_k tw b1
    have kw2 := ob_k tw b1a
    refine kjZ_y rfl rfl 7 _ _ _ _ tw ?_
    refine (And.intro (tw.k (by decide) rfl) (Exists.intro _ (And.intro f10w (And.intro (Nat.le_of_ble_eq_true rfl) (And.intro (tw.k (by decide) rfl) (Exists.intro _ (And.intro f11w (And.intro (tw.k (by decide) rfl) (And.intro (Or.inl ⟨rfl, by assumption⟩) (fun tw' => ?_))))))))))
    have go : ∀ z, kTY z → z = (w.1, w.2.1, kFu w.2.2.1 0 10 (some b'), w.2.2.2) → kjY kPP (kQQ Y) (d + 9) 14 61 [some (.ref 0), some (.ref b)] [] z (rwrP B b b' σ nmm ks) := by
      intro z tz ez
      have gz : KG B z nmm ks := by rw [ez]; exact gw.pf tw (by decide)
      have kz2 := ob_k tz b1a
      refine kjZ_y rfl rfl 3 _ _ _ _ tz ?_
      refine (And.intro (tz.k (by decide) rfl) (And.intro (Or.inl ⟨rfl, by assumption⟩) (fun tz' => ?_)))
      have go2 : ∀ z2, kTY z2 → z2 = (z.1, z.2.1, kFu z.2.2.1 0 11 (some b), z.2.2.2) → kjY kPP (kQQ Y) (d + 9) 14 64 [some (.ref 0), some (.ref b)] [] z2 (rwrP B b b' σ nmm ks) := by
        intro z2 tz2 ez2
        have gz2 : KG B z2 nmm ks := by rw [ez2]; exact gz.pf tz (by decide)
        have ez3 : z2 = (w.1, w.2.1, kFu (kFu w.2.2.1 0 10 (some b')) 0 11 (some b), w.2.2.2) := by rw [ez2, ez]
        have ff : z2.2.2.1 0 10 = some b' := by rw [ez3]; show kFu (kFu w.2.2.1 0 10 (some b')) 0 11 (some b) 0 10 = _; rw [kFu_at, if_neg (fun q => absurd q.2 (by decide)), kFu_at, if_pos ⟨rfl, rfl⟩]
        have ff2 : z2.2.2.1 0 11 = some b := by rw [ez3]; show kFu (kFu w.2.2.1 0 10 (some b')) 0 11 (some b) 0 11 = _; rw [kFu_at, if_pos ⟨rfl, rfl⟩]
        have kz := ob_k tz2 b1
        refine kjZ_y rfl rfl 4 _ _ _ _ tz2 ?_
        refine (And.intro (tz2.k (by decide) rfl) (Exists.intro _ (And.intro ff (And.intro (by assumption) (And.intro rfl (And.intro (Or.inl rfl) ?_))))))
        refine ⟨⟨_, rfl⟩, Or.inr (Or.inr ⟨gz2, ⟨?_, ?_⟩, ff, ff2, w, cw', ez3⟩)⟩
        · obtain ⟨r, N, hr⟩ := jw.1
          refine ⟨r, N, ?_⟩
          have ef2 : z2.2.2.1 b' 1 = w.2.2.1 b' 1 := by rw [ez3]; show kFu (kFu w.2.2.1 0 10 (some b')) 0 11 (some b) b' 1 = _; rw [kFu_at, if_neg (fun q => absurd q.2 (by decide)), kFu_at, if_neg (fun q => absurd q.2 (by decide))]
          obtain ⟨r1, r2, r3, r4, r5, r6, r7⟩ := hr
          exact ⟨by rw [ef2]; exact r1, by rw [ez3]; exact r2, r3, by rw [ez3]; exact r4, by rw [ez3]; exact r5, r6, by rw [ez3]; exact r7⟩
        · rw [ez3]; exact jw.2
      exact go2 _ tz' rfl
    exact go _ tw' rfl
  have l43 : kjY kPP (kQQ Y) (d + 9) 14 43 [some (.ref 0), some (.int x1)] [] v (rwrP B b b' σ nmm ks) := by
    refine kjZ_y rfl rfl 3 _ _ _ _ tv ?_
    refine (And.intro (tv.k (by decide) rfl) (And.intro (fun q => ?_) (fun q => ?_)))
    · exact swp v tv gv jv rfl cwg
    refine kjZ_y rfl rfl 8 _ _ _ _ tv ?_
    refine (And.intro (tv.k (by decide) rfl) (And.intro (tv.k (by decide) rfl) (Exists.intro _ (And.intro f11v (And.intro (by assumption) (And.intro (tv.k (by decide) rfl) (And.intro (Or.inl rfl) (fun tv' => ?_))))))))
    have go : ∀ w, kTY w → w = (mjIu v.1 0 16 (v.1 0 16 - v.1 b' 2), v.2) → kjY kPP (kQQ Y) (d + 9) 14 54 [some (.ref 0), some (.int x1)] [] w (rwrP B b b' σ nmm ks) := by
      intro w tw ew
      obtain ⟨g2, o2⟩ := gv.pi2 tv (h := 0) (x := 16) (by decide) ew
      refine swp w tw g2 ⟨o2 b' b1 _ jv.1, ?_⟩ (by rw [ew]) (Ch.tr ty i6g cwg ?_)
      · rw [ew]; show mjIu v.1 0 16 _ b' 3 = _; rw [mjIu_at, if_neg (fun y => b4 y.1)]; exact jv.2
      · rw [ew]; exact (Ch_i (by rw [tv.k (h := 0) (c := 9) (by decide) rfl]; decide)).up (fun z => z) (fun p hp => by rw [List.mem_singleton.mp hp]; exact List.mem_cons_self) (fun p hp => by cases hp)
    exact go _ tv' rfl
  refine kjZ_y rfl rfl 3 _ _ _ _ tv ?_
  refine (And.intro (tv.k (by decide) rfl) (And.intro (fun q => ?_) (fun q => ?_)))
  · exact l43
  refine kjZ_y rfl rfl 6 _ _ _ _ tv ?_
  refine (And.intro (tv.k (by decide) rfl) (Exists.intro _ (And.intro f11v (And.intro (by assumption) (And.intro (tv.k (by decide) rfl) (And.intro (fun q2 => ?_) (fun q2 => ?_)))))))
  · exact l43
  refine kjZ_y rfl rfl 3 _ _ _ _ tv ?_
  refine (And.intro (tv.k (by decide) rfl) (And.intro (Or.inl rfl) (fun tv' => ?_)))
  have go : ∀ w, kTY w → w = (mjIu v.1 0 16 (Int32.ofInt 0), v.2) → kjY kPP (kQQ Y) (d + 9) 14 39 [some (.ref 0), some (.int x1)] [] w (rwrP B b b' σ nmm ks) := by
    intro w tw ew
    obtain ⟨g2, o2⟩ := gv.pi2 tv (h := 0) (x := 16) (by decide) ew
    have bw : BLJ w := bj.e2 (by rw [ew])
    refine kjZ_y rfl rfl 2 _ _ _ _ tw ?_
    refine (And.intro (Nat.le_of_ble_eq_true rfl) (And.intro (Or.inl ⟨(Nat.le_of_ble_eq_true rfl), (tw.k (by decide) rfl)⟩) (And.intro (Nat.le_of_ble_eq_true rfl) (And.intro (Nat.le_of_ble_eq_true rfl) (kjY_mono tw (fun q_ w1 tw1 xw1 h_ => ?_) (kG_halt (d := d + 4) tw g2 bw))))))
    obtain ⟨rfl, g3, l3, bj3, z17, z13, c3⟩ := h_
    intro _ _
    refine kjZ_y rfl rfl 2 _ _ _ _ tw1 ?_
    refine And.intro rfl (And.intro (Or.inl rfl) ?_)
    have cvw : Ch true (rwF b') (rwO b') v w := by
      rw [ew]; exact (Ch_i (by rw [tv.k (h := 0) (c := 9) (by decide) rfl]; decide)).up (fun z => z) (fun p hp => by rw [List.mem_singleton.mp hp]; exact i3) (fun p hp => by cases hp)
    exact ⟨⟨_, rfl⟩, Or.inr (Or.inl ⟨g3, l3, bj3, z17, z13, Ch.tr ty i6 (Ch.tr ty i6 cw cvw) (c3.up (fun z => z) i2 i5)⟩)⟩
  exact go _ tv' rfl
end KREWRITE
