/-! The next command of a block. -/
def nxF : List (Nat × Nat) := rdF ++ [(0, 15), (53, 6), (53, 8)]
theorem nxF_in : (∀ p ∈ rdF, p ∈ nxF) ∧ (0, 15) ∈ nxF ∧ (53, 6) ∈ nxF ∧ (53, 8) ∈ nxF ∧ (∀ p ∈ rdO, p ∈ OWs) := by decide +kernel
section KNEXT
variable {Y : Nat → MethodName × ByteArray} {d : Nat} {σ u : kS} {B ws nmm nmm' : List (List Int32)} {ks ks' : List KC}
theorem kx_next0 (ty : kTY σ) (h13 : σ.1 0 13 = 0) : kjY kPP (kQQ Y) (d + 8) 26 0 (mjL0 2 [.ref 0]) [] σ (fun r u => r = none ∧ u = σ) := by
  refine kjZ_y rfl rfl 3 _ _ _ _ ty ?_
  refine (And.intro (ty.k (by decide) rfl) (And.intro (fun c => ?_) (fun c => ?_)))
  · exact absurd h13 c
  refine kjZ_y rfl rfl 1 _ _ _ _ ty ?_
  refine And.intro rfl (And.intro rfl ?_)
  exact ⟨rfl, rfl⟩
def nxP (B : List (List Int32)) (σ : kS) (q : Req) (nmm : List (List Int32)) (ks : List KC) (b n : Nat) : kK := fun r u => r = none ∧ KO B u q nmm ks ∧ u.2.2.1 53 6 = some b ∧ cmO q (u.2.2.1 53 8) ∧ u.1 0 15 = nI n ∧ (∀ b' ∈ OWb, ∀ l, kBY σ b' l → kBY u b' l ∧ u.1 b' 3 = σ.1 b' 3) ∧ Ch true nxF rdO σ u ∧ ∀ h x, ¬ h = 53 → u.2.2.1 h x = σ.2.2.1 h x
theorem kx_next1 (ty : kTY σ) (g : KG B σ nmm ks) (h13 : ¬ σ.1 0 13 = 0) {rn : Nat} (hrn : rn ∈ payB) (er : σ.2.2.1 0 12 = some rn) {D E : List Int32} {q : Req} (hq : q.length ≤ 1024) (hw : ∀ w ∈ q, w.length ≤ 16384) (hby : kBY σ rn (D ++ encR q ++ E)) (h15 : σ.1 0 15 = nI D.length) {b : Nat} (hbA : b ∈ ANb) (e6 : σ.2.2.1 53 6 = some b) : kjY kPP (kQQ Y) (d + 8) 26 0 (mjL0 2 [.ref 0]) [] σ (nxP B σ q nmm ks b (D ++ encR q).length) := by
  obtain ⟨p1, -, p3, p4, p5, -⟩ := payB_ok rn hrn
  have hpr : ∀ rn ∈ payB, (rn, 1) ∈ RQo := by decide
  have kr := ob_k ty p1
  have kb := ob_k ty (ANn_b b (ANb_n b hbA)).1
  obtain ⟨rr, N, s1, s2, s3, s4, s5, s6, s7⟩ := hby
  have hle : D.length + (encR q).length ≤ (D ++ encR q ++ E).length := by rw [List.length_append, List.length_append]; omega
  refine kjZ_y rfl rfl 3 _ _ _ _ ty ?_
  refine (And.intro (ty.k (by decide) rfl) (And.intro (fun c => ?_) (fun c => ?_)))
  rotate_left
  · exact absurd (Decidable.not_not.mp c) h13
  have hAT := AT_mid s7 rfl
  have hb30 : (D ++ encR q ++ E).length < 2 ^ 30 := by omega
  refine kjZ_y rfl rfl 15 _ _ _ _ ty ?_
  refine (And.intro (ty.k (by decide) rfl) (And.intro (ty.k (by decide) rfl) (Exists.intro _ (And.intro e6 (And.intro (Nat.le_of_ble_eq_true rfl) (And.intro (ty.k (by decide) rfl) (And.intro (ty.k (by decide) rfl) (Exists.intro _ (And.intro er (And.intro (by assumption) (Exists.intro _ (And.intro s1 (And.intro (ty.k (by decide) rfl) (And.intro (ty.k (by decide) rfl) (Exists.intro _ (And.intro er (And.intro (by assumption) (And.intro (Nat.le_of_ble_eq_true rfl) (And.intro (Or.inl ⟨(Nat.le_of_ble_eq_true rfl), (ty.k (by decide) rfl)⟩) (And.intro (Nat.le_of_ble_eq_true rfl) (And.intro (Nat.le_of_ble_eq_true rfl) (kjY_mono ty (fun q_ u1 ty1 xu1 h_ => ?_) (k_read (d := d + 4) ty s2 s3.2 s6 (p := D.length) (by omega) _ _ h15 s5)))))))))))))))))))))))
  have q1 := h_
  intro _ _
  obtain ⟨⟨z, ez, rx⟩, rfl, a4, a5, aw⟩ := rdQ_E hq hw hAT hle q1
  obtain ⟨g1, o1, c1, f3, eD, ecz, eF, eI⟩ := g.rd ty ez rx
  have rq1 := RQ_of ty g.1.1 (hpr rn hrn) s1 s2 s3.2 s6 f3 eD eF eI a4 hq aw
  have f6 : u1.2.2.1 53 6 = some b := by rw [(c1.fld ty (h := 53) (x := 6) (c := 3) (by decide) rfl (by decide) (by decide)).2.2]; exact e6
  have ko1 : KO B u1 q nmm ks := ⟨g1, rq1, b, hbA, f6⟩
  have kb1 := ob_k ty1 (ANn_b b (ANb_n b hbA)).1
  refine kjZ_y rfl rfl 6 _ _ _ _ ty1 ?_
  refine (And.intro (ty1.k (by decide) rfl) (And.intro (ty1.k (by decide) rfl) (And.intro (ty1.k (by decide) rfl) (And.intro (Or.inl rfl) (fun ty1' => ?_)))))
  have go : ∀ u2, kTY u2 → u2 = (mjIu u1.1 0 15 (u1.1 53 5), u1.2) → kjY kPP (kQQ Y) (d + 8) 26 25 [some (.ref 0), some (.ref b)] [] u2 (nxP B σ q nmm ks b (D ++ encR q).length) := by
    intro u2 ty2 eu2
    obtain ⟨ko2, o2⟩ := ko1.oi ty1 (x := 15) (by decide) eu2
    have kb2 := ob_k ty2 (ANn_b b (ANb_n b hbA)).1
    refine kjZ_y rfl rfl 4 _ _ _ _ ty2 ?_
    refine (And.intro (ty2.k (by decide) rfl) (And.intro (Nat.le_of_ble_eq_true rfl) (And.intro (Or.inl ⟨(Nat.le_of_ble_eq_true rfl), (ty2.k (by decide) rfl)⟩) (And.intro (Nat.le_of_ble_eq_true rfl) (And.intro (Nat.le_of_ble_eq_true rfl) (kjY_mono ty2 (fun q_ u3 ty3 xu3 h_ => ?_) (k_begin (d := d) ty2 ko2.2.1 kb2)))))))
    obtain ⟨rfl, o, eu3, ho⟩ := h_
    intro _ _
    obtain ⟨ko3, -, -, eI3, ⟨g6, g8⟩, eF3⟩ := ko2.1.bg ty2 ko2.2.1 hbA eu3
    refine kjZ_y rfl rfl 1 _ _ _ _ ty3 ?_
    refine And.intro rfl (And.intro rfl ?_)
    have c2 : Ch true nxF rdO u1 u2 := by
      rw [eu2]; exact (Ch_i (by rw [ty1.k (h := 0) (c := 9) (by decide) rfl]; decide)).up (fun z => z) (fun p hp => by rw [List.mem_singleton.mp hp]; exact nxF_in.2.1) (fun p hp => by cases hp)
    have k53 : (u2.2.2.2.1 53).1 = 3 := ty2.k (by decide) rfl
    have n6 : ¬ (53, 6) ∈ OWs ∧ ¬ (53, 8) ∈ OWs := by decide +kernel
    have c3 : Ch true nxF rdO u2 u3 := by
      have a := Ch_f (vs := true) (os := rdO) (σ := u2) (a := 53) (x := 6) (o := some b) (by rw [k53]; decide) (fun z => absurd z n6.1)
      have c := Ch_f (vs := true) (os := rdO) (σ := (u2.1, u2.2.1, kFu u2.2.2.1 53 6 (some b), u2.2.2.2)) (a := 53) (x := 8) (o := o) (by show (u2.2.2.2.1 53).1 < 20; rw [k53]; decide) (fun z => absurd z n6.2)
      rw [eu3]
      exact Ch.tr ty2 nxF_in.2.2.2.2 (a.up (fun z => z) (fun p hp => by rw [List.mem_singleton.mp hp]; exact nxF_in.2.2.1) (fun p hp => hp)) (c.up (fun z => z) (fun p hp => by rw [List.mem_singleton.mp hp]; exact nxF_in.2.2.2.1) (fun p hp => hp))
    have i15 : u3.1 0 15 = nI (D ++ encR q).length := by
      have e1 : u2.1 0 15 = u1.1 53 5 := by rw [eu2]; show mjIu u1.1 0 15 (u1.1 53 5) 0 15 = _; rw [mjIu_at, if_pos ⟨rfl, rfl⟩]
      rw [eI3, e1, a5, List.length_append]
    have e2F : u2.2.2.1 = u1.2.2.1 := by rw [eu2]
    have nb0 : ∀ b' ∈ OWb, ¬ b' = 0 := by decide
    refine ⟨rfl, ko3, g6, by rw [g8]; exact ho, i15, fun b' hb' l hl => ⟨?_, ?_⟩, Ch.tr ty nxF_in.2.2.2.2 (Ch.tr ty nxF_in.2.2.2.2 (c1.up (fun _ => rfl) nxF_in.1 (fun p hp => hp)) c2) c3, fun h x n => by rw [eF3 h x n, e2F, eF h x n]⟩
    · have h2 := o2 b' hb' l (o1 b' hb' l hl).1
      have q53 : ∀ b ∈ OWb, ¬ b = 53 := by decide
      obtain ⟨r, M, t1, t2, t3, t4, t5, t6, t7⟩ := h2
      exact ⟨r, M, by rw [eF3 b' 1 (q53 b' hb')]; exact t1, by rw [eu3]; exact t2, t3, by rw [eI3]; exact t4, by rw [eI3]; exact t5, t6, by rw [eI3]; exact t7⟩
    · have e1 : u2.1 b' 3 = u1.1 b' 3 := by rw [eu2]; show mjIu u1.1 0 15 (u1.1 53 5) b' 3 = _; rw [mjIu_at, if_neg (fun y => nb0 b' hb' y.1)]
      rw [eI3, e1]; exact (o1 b' hb' l hl).2
  exact go _ ty1' rfl
end KNEXT
