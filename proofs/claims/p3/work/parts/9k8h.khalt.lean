/-! The server goes: halt, crash. -/
def hlF : List (Nat × Nat) := (0, 13) :: (0, 17) :: opF
def haF : List (Nat × Nat) := hlF ++ (fgF ++ [(48, 4)])
def haO : List (Nat × Nat) := drO ++ [(48, 3)]
theorem haO_in : ∀ p ∈ haO, p ∈ OWs := by decide +kernel
/-- a connection that is closed and holds nothing -/
def CLRd (σ : kS) (c : Nat) : Prop := ∃ bk ∈ payB, σ.2.2.1 c 3 = some bk ∧ (kBY σ bk [] ∧ σ.1 bk 3 = 0) ∧ (kBY σ (c + 1) [] ∧ σ.1 (c + 1) 3 = 0) ∧ σ.1 c 0 = 0 ∧ σ.1 c 4 = 0 ∧ σ.1 c 7 = 0 ∧ σ.1 (c + 3) 3 = 0
theorem cn_ap : ∀ c ∈ CNs, ∀ c' ∈ CNs, ¬ c' = c → (¬ c' = c + 1 ∧ ¬ c' = c + 3 ∧ ¬ c' + 1 = c ∧ ¬ c' + 1 = c + 1 ∧ ¬ c' + 1 = c + 3) ∧ ¬ c' + 3 = c ∧ ¬ c' + 3 = c + 1 ∧ ¬ c' + 3 = c + 3 := by decide +kernel
theorem cn_pb : ∀ c ∈ CNs, ∀ b ∈ payB, ¬ b = c ∧ ¬ b = c + 1 ∧ ¬ b = c + 3 := by decide +kernel
section KHALT
variable {Y : Nat → MethodName × ByteArray} {d : Nat} {σ u z : kS} {B ws nm nm' : List (List Int32)} {ks ks' : List KC}
theorem BLJ.e2 (h : BLJ σ) (e : u.2.2.1 = σ.2.2.1) : BLJ u := ⟨fun c hc => by rw [e]; exact h.1 c hc, fun c hc c' hc' q => h.2 c hc c' hc' (by rw [e] at q; exact q)⟩
theorem BLJ.e2f (h : BLJ σ) (ty : kTY σ) {vs : Bool} {fs os : List (Nat × Nat)} (ch : Ch vs fs os σ u) (hf : ∀ c ∈ CNs, ¬ (c, 3) ∈ fs) : BLJ u := by
  have q : ∀ c ∈ CNs, c < 76 ∧ (kd0 c).1 = 1 := by decide +kernel
  have e : ∀ c ∈ CNs, u.2.2.1 c 3 = σ.2.2.1 c 3 := fun c hc => (ch.fld ty (q c hc).1 (q c hc).2 (by decide) (hf c hc)).2.2
  exact ⟨fun c hc => by rw [e c hc]; exact h.1 c hc, fun c hc c' hc' z => h.2 c hc c' hc' (by rw [e c hc, e c' hc'] at z; exact z)⟩
theorem CLRd.fr {c c' bk : Nat} (hc : c ∈ CNs) (hc' : c' ∈ CNs) (hne : ¬ c' = c) (h : CLRd u c') (hj : ∀ b, u.2.2.1 c' 3 = some b → ¬ b = bk) (hbk : bk ∈ payB) (e2 : z.2 = u.2) (hb : ∀ b' ∈ OWb, ¬ b' = bk → ¬ b' = c + 1 → ¬ b' = c + 3 → ∀ l', kBY u b' l' → kBY z b' l') (hI : ∀ h x, ¬ h = c → ¬ h = c + 1 → ¬ h = c + 3 → ¬ h = bk → z.1 h x = u.1 h x) : CLRd z c' := by
  obtain ⟨b, hbp, f3, ⟨k1, k2⟩, ⟨k3, k4⟩, k5, k6, k7, k8⟩ := h
  obtain ⟨⟨a1, a2, a3, a4, a5⟩, a6, a7, a8⟩ := cn_ap c hc c' hc' hne
  obtain ⟨p1, p2, p3⟩ := cn_pb c hc b hbp
  obtain ⟨r1, r2, r3⟩ := cn_pb c' hc' bk hbk
  have nb := hj b f3
  have eF : z.2.2.1 = u.2.2.1 := congrArg (fun t => t.2.1) e2
  have o := (payB_ok b hbp).1
  have o1 := (CN_ok c' hc').2.2.1
  exact ⟨b, hbp, by rw [eF]; exact f3, ⟨hb b o nb p2 p3 _ k1, (hI b 3 p1 p2 p3 nb).trans k2⟩, ⟨hb _ o1 (fun q => r2 q.symm) a4 a5 _ k3, (hI _ 3 a3 a4 a5 (fun q => r2 q.symm)).trans k4⟩, (hI c' 0 hne a1 a2 (fun q => r1 q.symm)).trans k5, (hI c' 4 hne a1 a2 (fun q => r1 q.symm)).trans k6, (hI c' 7 hne a1 a2 (fun q => r1 q.symm)).trans k7, (hI _ 3 a6 a7 a8 (fun q => r3 q.symm)).trans k8⟩
theorem CLRd.ch (ty : kTY σ) (ow : OWN σ) {c : Nat} (hc : c ∈ CNs) (h : CLRd σ c) {vs : Bool} {fs os : List (Nat × Nat)} (ch : Ch vs fs os σ u) (hf : ∀ p ∈ fs, p.1 = 59 ∨ p.1 = 48) (ho : ∀ p ∈ os, p ∈ OWs ∧ (p.1 = 59 ∨ p.1 = 48)) : CLRd u c := by
  obtain ⟨b, hbp, f3, ⟨k1, k2⟩, ⟨k3, k4⟩, k5, k6, k7, k8⟩ := h
  have q : ∀ c ∈ CNs, c < 76 ∧ (kd0 c).1 = 1 ∧ (¬ c = 59 ∧ ¬ c = 48) ∧ c + 1 ∈ OWb ∧ c + 3 ∈ OWb := by decide +kernel
  have qo : ∀ b ∈ OWb, b < 76 ∧ (kd0 b).1 = 0 ∧ ¬ b = 59 ∧ ¬ b = 48 := by decide +kernel
  have o := (payB_ok b hbp).1
  obtain ⟨q1, q2, ⟨q3, q4⟩, q5, q6⟩ := q c hc
  have fc : ∀ x, u.1 c x = σ.1 c x ∧ u.2.1 c x = σ.2.1 c x ∧ u.2.2.1 c x = σ.2.2.1 c x := fun x => ch.fld ty q1 q2 (by decide) (fun z => (hf _ z).elim q3 q4)
  have fb : ∀ b ∈ OWb, ∀ x, u.1 b x = σ.1 b x := fun b hb x => (ch.fld ty (qo b hb).1 (qo b hb).2.1 (by decide) (fun z => (hf _ z).elim (qo b hb).2.2.1 (qo b hb).2.2.2)).1
  have ky : ∀ b ∈ OWb, ∀ l, kBY σ b l → kBY u b l := fun b hb l h => h.fr ty ow hb ch (fun p hp z => (hf p hp).elim (fun y => (qo b hb).2.2.1 (z.symm.trans y)) (fun y => (qo b hb).2.2.2 (z.symm.trans y))) (fun p hp => ⟨(ho p hp).1, fun z => (ho p hp).2.elim (fun y => (qo b hb).2.2.1 (z.symm.trans y)) (fun y => (qo b hb).2.2.2 (z.symm.trans y))⟩)
  exact ⟨b, hbp, by rw [(fc 3).2.2]; exact f3, ⟨ky b o _ k1, (fb b o 3).trans k2⟩, ⟨ky _ q5 _ k3, (fb _ q5 3).trans k4⟩, (fc 0).1.trans k5, (fc 4).1.trans k6, (fc 7).1.trans k7, (fb _ q6 3).trans k8⟩
theorem kG_halt_l (K : kK) (hK : ∀ u o3 o4, kTY u → KG B u nm ks → BLJ u → iC opF σ u → (∀ c ∈ CNs, CLRd u c) → kjY kPP (kQQ Y) (d + 4) 22 28 [some (.ref 0), some (.ref 11), some (.int (nI 4)), o3, o4] [] u K) : ∀ (f i : Nat) (x3 : Int32) (o4 : Option Value) (u : kS), i + f = 4 → x3 = nI i → kTY u → KG B u nm ks → BLJ u → iC opF σ u → (∀ k, k < i → CLRd u (12 + 9 * k)) →
    kjY kPP (kQQ Y) (d + 4) 22 14 [some (.ref 0), some (.ref 11), some (.int (nI 4)), some (.int x3), o4] [] u K := by
  intro f
  induction f with
  | zero =>
    intro i x3 o4 u hi e3 tu gu bu iu cu
    refine kjZ_y rfl rfl 3 _ _ _ _ tu ?_
    refine And.intro (fun c => ?_) (fun c => ?_)
    rotate_left
    · exact absurd (show nI 4 ≤ x3 by rw [e3, nle (by omega) (by omega)]; omega) c
    refine hK u _ _ tu gu bu iu (fun c hc => ?_)
    have hc : c = 12 + 9 * 0 ∨ c = 12 + 9 * 1 ∨ c = 12 + 9 * 2 ∨ c = 12 + 9 * 3 := by
      unfold CNs at hc; simp at hc; omega
    rcases hc with z | z | z | z <;> rw [z] <;> exact cu _ (by omega)
  | succ f ih =>
    intro i x3 o4 u hi e3 tu gu bu iu cu
    have v4 : vp_in x3 4 := by rw [e3]; exact vp_in_nI (by omega) (by decide)
    have c4 : x3.toNatClampNeg = i := by rw [e3]; exact nI_clamp (by omega)
    have ef : u.2.2.1 11 x3.toNatClampNeg = some (12 + 9 * i) := by rw [c4]; exact tu.2.2.2.2.2.2.2.2.2 i (by omega)
    have hcn : ∀ k, k < 4 → 12 + 9 * k ∈ CNs := by decide
    have hc := hcn i (by omega)
    obtain ⟨bk, hbk, eb⟩ := bu.1 _ hc
    obtain ⟨b1, -, -, -, -, -, b7, -⟩ := payB_ok bk hbk
    obtain ⟨q1, q2, q3, q4, q5, -⟩ := CN_ok _ hc
    obtain ⟨n1, n2, n3⟩ := cn_pb _ hc bk hbk
    have kc : (u.2.2.2.1 (12 + 9 * i)).1 = 1 := tu.k q1 q2
    refine kjZ_y rfl rfl 3 _ _ _ _ tu ?_
    refine And.intro (fun c => ?_) (fun c => ?_)
    · exact absurd (show nI 4 ≤ x3 from c) (by rw [e3, nle (by omega) (by omega)]; omega)
    refine kjZ_y rfl rfl 6 _ _ _ _ tu ?_
    refine (Or.inl (And.intro (Or.inl (tu.k (by decide) rfl)) (And.intro (kdw tu (by decide) rfl v4) (Exists.intro _ (And.intro ef (And.intro (Nat.le_of_ble_eq_true rfl) (And.intro (Nat.le_of_ble_eq_true rfl) (And.intro (Or.inl ⟨(Nat.le_of_ble_eq_true rfl), (by assumption)⟩) (And.intro (Nat.le_of_ble_eq_true rfl) (And.intro (Nat.le_of_ble_eq_true rfl) (kjY_mono tu (fun q_ u1 ty1 xu1 h_ => ?_) (k_close (d := d + 1) tu gu hc b1 n2 eb))))))))))))
    obtain ⟨rfl, g1, m1, m2, f1, f2, o1, x1, l0, l4, l7⟩ := h_
    intro _ _
    have kc1 : (u1.2.2.2.1 (12 + 9 * i)).1 = 1 := ty1.k q1 q2
    have ko := ob_k ty1 q4
    refine kjZ_y rfl rfl 3 _ _ _ _ ty1 ?_
    refine (And.intro (by assumption) (And.intro (Nat.le_of_ble_eq_true rfl) (And.intro (Or.inl ⟨(Nat.le_of_ble_eq_true rfl), (by assumption)⟩) (And.intro (Nat.le_of_ble_eq_true rfl) (And.intro (Nat.le_of_ble_eq_true rfl) (kjY_mono ty1 (fun q_ u2 ty2 xu2 h_ => ?_) (k_empty ty1 (12 + 9 * i + 3) ko)))))))
    obtain ⟨rfl, eu2⟩ := h_
    intro _ _
    obtain ⟨g2, m3, f3, o2⟩ := g1.em ty1 q4 eu2
    have e2 : u2.2 = u.2 := by rw [eu2]; exact x1.1
    have eF : u2.2.2.1 = u.2.2.1 := congrArg (fun t => t.2.1) e2
    have eI2 : ∀ h x, ¬ h = 12 + 9 * i + 3 → u2.1 h x = u1.1 h x := fun h x n => by
      rw [eu2]; show mjIu (mjIu u1.1 (12 + 9 * i + 3) 2 0) (12 + 9 * i + 3) 3 0 h x = _
      rw [mjIu_at, mjIu_at, if_neg (fun y => n y.1), if_neg (fun y => n y.1)]
    have i1 : iC opF u u1 := ⟨x1.1, fun h x n => x1.2 h x (fun y => n (by rw [y.1]; exact (opF_in.1 _ hc).1 x y.2)) (fun y => n (by rw [y.1]; exact ((opF_in.1 _ hc).2 x y.2).1)) (fun y => n (by rw [y.1]; exact opF_in.2 bk hbk x y.2))⟩
    have i2 : iC opF u1 u2 := iC_2 ((opF_in.1 _ hc).2 2 (by decide)).2 ((opF_in.1 _ hc).2 3 (by decide)).2 eu2
    have eI : ∀ h x, ¬ h = 12 + 9 * i → ¬ h = 12 + 9 * i + 1 → ¬ h = 12 + 9 * i + 3 → ¬ h = bk → u2.1 h x = u.1 h x := fun h x z1 z2 z3 z4 => (eI2 h x z3).trans (x1.2 h x (fun y => z1 y.1) (fun y => z2 y.1) (fun y => z4 y.1))
    refine kjZ_y rfl rfl 2 _ _ _ _ ty2 ?_
    refine ih (i + 1) _ _ u2 (by omega) (by rw [e3]; exact nI_1 i) ty2 g2 (bu.e2 eF) (iu.tr (i1.tr i2)) (fun k hk => ?_)
    by_cases z : k = i
    · rw [z]
      refine ⟨bk, hbk, by rw [eF]; exact eb, ⟨o2 bk b1 n3 _ m1, (eI2 bk 3 n3).trans f1⟩, ⟨o2 _ q3 (by omega) _ m2, (eI2 _ 3 (by omega)).trans f2⟩, (eI2 _ 0 (by omega)).trans l0, (eI2 _ 4 (by omega)).trans l4, (eI2 _ 7 (by omega)).trans l7, f3⟩
    · have hck := hcn k (by omega)
      refine CLRd.fr (c := 12 + 9 * i) hc hck (by omega) (cu k (by omega)) (fun b hb' y => ?_) hbk e2 (fun b' hb' z1 z2 z3 l' hl' => o2 b' hb' z3 _ (o1 b' hb' z1 z2 _ hl')) eI
      have := bu.2 _ hck _ hc (by rw [hb', y]; exact eb.symm)
      omega
theorem KG.wf (ty : kTY σ) (g : KG B σ nm []) (hw : WRD u []) (e2 : u.2 = σ.2) (eI : ∀ h x, ¬ h = 52 → ¬ (h = 48 ∧ x = 4) → u.1 h x = σ.1 h x) : KG B u [] [] ∧ Ch true [(48, 4)] [(48, 3)] σ u := by
  have eF : u.2.2.1 = σ.2.2.1 := congrArg (fun t => t.2.1) e2
  have eD : u.2.2.2.1 = σ.2.2.2.1 := congrArg (fun t => t.2.2.1) e2
  have eL : u.2.1 = σ.2.1 := congrArg (fun t => t.1) e2
  have ex : kEx σ u := ⟨by rw [e2]; exact Nat.le_refl _, fun h _ => by rw [eD], by rw [e2], by rw [e2]; exact Nat.le_refl _⟩
  have k52 : σ.2.2.2.1 52 = (20, 1024) := ty.kl (h := 52) (c := (20, 1024)) (by decide) rfl
  have k48 : (σ.2.2.2.1 48).1 = 2 := ty.k (by decide) rfl
  have f52 : σ.2.2.1 48 3 = some 52 := (ty.2.2.2.2.2.2.2.1 48 3 (by rw [k48]; decide) (by rw [k48]; decide) |> fun z => by rw [k48] at z; exact z.1)
  have ch : Ch false [(48, 4)] [(48, 3)] σ u := by
    refine ⟨ex, fun h x h1 h2 h3 => ⟨eI h x (fun z => ?_) (fun z => h3 (by rw [z.1, z.2]; exact List.mem_cons_self)), by rw [eL], by rw [eF]⟩, fun g' h1 h2 h3 => ⟨funext fun x => eI g' x (fun z => ?_) (fun z => ?_), by rw [eL], by rw [eF]⟩, fun p _ _ _ => Or.inl (by rw [eF])⟩
    · rw [z, k52] at h1; exact absurd h1 (show ¬ (20 : Nat) < 20 by decide)
    · exact h3 (48, 3) List.mem_cons_self (by rw [z]; exact f52)
    · rw [z.1, k48] at h1; exact absurd h1 (by decide)
  have ow : OWN u := g.1.1.same (fun p _ => by rw [eF])
  have hb : ∀ b ∈ OWb, ¬ b = 52 ∧ ¬ b = 48 := by decide
  have po : POT u := g.1.2.same (fun p hp => kl_eq ty ex hp (by rw [eF])) (fun b q => eI b 2 (hb b q).1 (fun z => (hb b q).2 z.1)) (eI 59 6 (by decide) (by decide)) ⟨by rw [e2], by rw [e2]⟩
  have a1 : ∀ p ∈ [((48 : Nat), (4 : Nat))], p.1 = 48 ∧ p.1 < 76 ∧ ¬ p ∈ stKf := by decide
  have a2 : ∀ p ∈ [((48 : Nat), (3 : Nat))], p.1 = 48 ∧ p ∈ OWs ∧ ¬ p ∈ stKo := by decide
  obtain ⟨w2, w3, ⟨fr, vs, w5, w5'⟩, w6, w8, w9, w10⟩ := g
  have q : ∀ c ∈ CNs, c < 76 ∧ (kd0 c).1 = 1 ∧ ¬ c = 48 := by decide +kernel
  refine ⟨⟨⟨ow, po⟩, ⟨hw, fun w hw' => (by cases hw')⟩, ⟨fr, vs, w5.fr ty w2.1 ch (fun p hp => (a1 p hp).2) (fun p hp => (a2 p hp).2), ⟨fun x hx => (by cases hx), w5'.2.1, w5'.2.2⟩⟩, fun b hb' => ?_, w8.fr ty w2.1 ch (fun p hp => by rw [(a1 p hp).1]; decide) (fun p hp => ⟨(a2 p hp).2.1, by rw [(a2 p hp).1]; decide⟩), fun c hc => ?_, fun c hc => ?_⟩, ch.up (fun _ => rfl) (fun p hp => hp) (fun p hp => hp)⟩
  · obtain ⟨l', hl'⟩ := w6 b hb'
    exact ⟨l', hl'.fr ty w2.1 hb' ch (fun p hp => by rw [(a1 p hp).1]; exact fun z => (hb b hb').2 z.symm) (fun p hp => ⟨(a2 p hp).2.1, by rw [(a2 p hp).1]; exact fun z => (hb b hb').2 z.symm⟩)⟩
  · obtain ⟨n, hn, e⟩ := w9 c hc
    exact ⟨n, hn, by rw [(ch.fld ty (q c hc).1 (q c hc).2.1 (by decide) (fun z => (q c hc).2.2 ((a1 _ z).1))).1]; exact e⟩
  · obtain ⟨n, hn, e⟩ := w10 c hc
    exact ⟨n, hn, by rw [(ch.fld ty (q c hc).1 (q c hc).2.1 (by decide) (fun z => (q c hc).2.2 ((a1 _ z).1))).1]; exact e⟩
/-- what is left when the server has gone -/
def haP (B : List (List Int32)) (σ : kS) : kK := fun r z => r = none ∧ KG B z [] [] ∧ (∀ c ∈ CNs, CLRd z c) ∧ BLJ z ∧ z.1 0 17 = 0 ∧ z.1 0 13 = 0 ∧ Ch true haF haO σ z
theorem hlF_ok : ∀ p ∈ hlF, p.1 < 76 ∧ (kd0 p.1).1 < 20 := by decide +kernel
theorem haF_in : (∀ p ∈ hlF, p ∈ haF) ∧ (∀ p ∈ fgF, p ∈ haF) ∧ (∀ p ∈ [((48 : Nat), (4 : Nat))], p ∈ haF) ∧ (∀ p ∈ drO, p ∈ haO) ∧ (∀ p ∈ [((48 : Nat), (3 : Nat))], p ∈ haO) := by decide +kernel
theorem ha_0 : ¬ ((0, 17) : Nat × Nat) ∈ opF ∧ ¬ ((0, 13) : Nat × Nat) ∈ opF ∧ ∀ c ∈ CNs, ∀ p ∈ hlF, ¬ p.1 = 59 ∧ ¬ p.1 = 48 := by decide +kernel
theorem kG_halt (ty : kTY σ) (g : KG B σ nm ks) (hb : BLJ σ) : kjY kPP (kQQ Y) (d + 4) 22 0 (mjL0 5 [.ref 0]) [] σ (haP B σ) := by
  refine kjZ_y rfl rfl 6 _ _ _ _ ty ?_
  refine (And.intro (ty.k (by decide) rfl) (And.intro (Or.inr ⟨rfl, Or.inl rfl⟩) (fun ty' => (And.intro (ty'.k (by decide) rfl) (And.intro (Or.inr ⟨rfl, Or.inl rfl⟩) (fun ty'' => ?_))))))
  have go : ∀ u, kTY u → u = (mjIu (mjIu σ.1 0 17 (Int32.ofInt 0)) 0 13 (Int32.ofInt 0), σ.2) → kjY kPP (kQQ Y) (d + 4) 22 6 [some (.ref 0), none, none, none, none] [] u (haP B σ) := by
    intro u tu eu
    have t1 : kTY (mjIu σ.1 0 17 (Int32.ofInt 0), σ.2) := ty'
    obtain ⟨g1, -⟩ := g.pi2 (u := (mjIu σ.1 0 17 (Int32.ofInt 0), σ.2)) ty (by decide) rfl
    obtain ⟨g2, -⟩ := g1.pi2 (u := u) t1 (h := 0) (x := 13) (by decide) eu
    have e2 : u.2 = σ.2 := by rw [eu]
    have eI : ∀ h x, ¬ (h = 0 ∧ (x = 17 ∨ x = 13)) → u.1 h x = σ.1 h x := fun h x n => by
      rw [eu]; show mjIu (mjIu σ.1 0 17 (Int32.ofInt 0)) 0 13 (Int32.ofInt 0) h x = _
      rw [mjIu_at, mjIu_at, if_neg (fun y => n ⟨y.1, Or.inr y.2⟩), if_neg (fun y => n ⟨y.1, Or.inl y.2⟩)]
    have u17 : u.1 0 17 = 0 := by rw [eu]; show mjIu (mjIu σ.1 0 17 (Int32.ofInt 0)) 0 13 (Int32.ofInt 0) 0 17 = _; rw [mjIu_at, if_neg (fun y => absurd y.2 (by decide)), mjIu_at, if_pos ⟨rfl, rfl⟩]; rfl
    have u13 : u.1 0 13 = 0 := by rw [eu]; show mjIu (mjIu σ.1 0 17 (Int32.ofInt 0)) 0 13 (Int32.ofInt 0) 0 13 = _; rw [mjIu_at, if_pos ⟨rfl, rfl⟩]; rfl
    have bu : BLJ u := hb.e2 (congrArg (fun t => t.2.1) e2)
    refine kjZ_y rfl rfl 8 _ _ _ _ tu ?_
    refine (And.intro (tu.k (by decide) rfl) (And.intro (Nat.le_of_ble_eq_true rfl) (Or.inl (And.intro (kdr tu (by decide) rfl) (And.intro (Nat.le_of_ble_eq_true rfl) (And.intro (Nat.le_of_ble_eq_true rfl) ?_))))))
    have e11 : nI (u.2.2.2.1 11).2 = nI 4 := by rw [tu.kl (h := 11) (c := (24, 4)) (by decide) rfl]
    have k := kG_halt_l (Y := Y) (d := d) (σ := u) (haP B σ) (fun v o3 o4 tv gv bv iv cv => ?_) 4 0 (Int32.ofInt 0) none u rfl rfl tu g2 bu iC.rf (fun k hk => absurd hk (Nat.not_lt_zero k))
    · rw [← e11] at k
      exact k
    have c1 : Ch true haF haO σ v := (Ch_ints (fs := hlF) (os := []) (iv.1.trans e2) (fun h x n => (iv.2 h x (fun z => n (List.mem_cons_of_mem _ (List.mem_cons_of_mem _ z)))).trans (eI h x (fun z => n (by
      rcases z.2 with y | y
      · rw [z.1, y]; exact List.mem_cons_of_mem _ List.mem_cons_self
      · rw [z.1, y]; exact List.mem_cons_self)))) (fun p hp => by rw [ty.2.2.1 p.1 (hlF_ok p hp).1]; exact (hlF_ok p hp).2)).up (fun z => z) haF_in.1 (fun p hp => by cases hp)
    have v17 : v.1 0 17 = 0 := (iv.2 0 17 ha_0.1).trans u17
    have v13 : v.1 0 13 = 0 := (iv.2 0 13 ha_0.2.1).trans u13
    refine kjZ_y rfl rfl 3 _ _ _ _ tv ?_
    refine (And.intro (tv.k (by decide) rfl) (And.intro (Nat.le_of_ble_eq_true rfl) (And.intro (Or.inl ⟨(Nat.le_of_ble_eq_true rfl), (tv.k (by decide) rfl)⟩) (And.intro (Nat.le_of_ble_eq_true rfl) (And.intro (Nat.le_of_ble_eq_true rfl) (kjY_mono tv (fun q_ v1 tv1 xv1 h_ => ?_) (kG_forget (d := d) tv gv)))))))
    obtain ⟨rfl, gv1, cv1⟩ := h_
    intro _ _
    have l1 : ∀ c ∈ CNs, CLRd v1 c := fun c hc => (cv c hc).ch tv gv.1.1 hc cv1 (by decide) (by decide)
    have b1 : BLJ v1 := bv.e2f tv cv1 (by decide)
    refine kjZ_y rfl rfl 3 _ _ _ _ tv1 ?_
    refine (And.intro (tv1.k (by decide) rfl) (And.intro (Nat.le_of_ble_eq_true rfl) (And.intro (Or.inl ⟨(Nat.le_of_ble_eq_true rfl), (tv1.k (by decide) rfl)⟩) (And.intro (Nat.le_of_ble_eq_true rfl) (And.intro (Nat.le_of_ble_eq_true rfl) (kjY_mono tv1 (fun q_ v2 tv2 xv2 h_ => ?_) (k_wforget (d := d + 2) tv1 gv1.1.1 gv1.1.2 gv1.2.1.1)))))))
    obtain ⟨rfl, hw2, e22, eI2⟩ := h_
    intro _ _
    obtain ⟨g3, c3⟩ := gv1.wf tv1 hw2 e22 eI2
    have l2 : ∀ c ∈ CNs, CLRd v2 c := fun c hc => (l1 c hc).ch tv1 gv1.1.1 hc c3 (by decide) (by decide)
    refine kjZ_y rfl rfl 1 _ _ _ _ tv2 ?_
    refine And.intro rfl (And.intro rfl ?_)
    have y1 := cv1.fld tv (h := 0) (x := 17) (c := 9) (by decide) rfl (by decide) (by decide)
    have y2 := cv1.fld tv (h := 0) (x := 13) (c := 9) (by decide) rfl (by decide) (by decide)
    have y3 := c3.fld tv1 (h := 0) (x := 17) (c := 9) (by decide) rfl (by decide) (by decide)
    have y4 := c3.fld tv1 (h := 0) (x := 13) (c := 9) (by decide) rfl (by decide) (by decide)
    exact ⟨rfl, g3, l2, b1.e2 (congrArg (fun t => t.2.1) e22), y3.1.trans (y1.1.trans v17), y4.1.trans (y2.1.trans v13), Ch.tr ty haO_in (Ch.tr ty haO_in c1 (cv1.up (fun z => z) haF_in.2.1 haF_in.2.2.2.1)) (c3.up (fun z => z) haF_in.2.2.1 haF_in.2.2.2.2)⟩
  exact go _ ty'' rfl
end KHALT
