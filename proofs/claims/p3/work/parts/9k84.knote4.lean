/-! note, whole. -/
section KNOTE4
variable {Y : Nat → MethodName × ByteArray} {d : Nat} {σ u : kS} {B ws nm nm' : List (List Int32)} {ks ks' : List KC}
/-- an outer int -/
theorem KO.oi (ty : kTY σ) (g : KO B σ ws nm ks) {x : Nat} {v : Int32} (hx : x ∈ [13, 14, 15, 16, 17]) (eu : u = (mjIu σ.1 0 x v, σ.2)) : KO B u ws nm ks ∧ ∀ b' ∈ OWb, ∀ l', kBY σ b' l' → kBY u b' l' := by
  have hm : (0, x) ∈ ouF := by
    have : ∀ x ∈ [13, 14, 15, 16, 17], (0, x) ∈ ouF := by decide +kernel
    exact this x hx
  obtain ⟨k1, k2⟩ := g.1.pi2 ty hm eu
  have eI : ∀ h, ¬ h = 0 → u.1 h = σ.1 h := fun h z => by rw [eu]; show mjIu σ.1 0 x v h = _; rw [mjIu_n z]
  have e2 : u.2 = σ.2 := by rw [eu]
  have k0 : (σ.2.2.2.1 0).1 = 9 := ty.k (by decide) rfl
  refine ⟨⟨k1, g.2.1.same (congrArg (fun t => t.2.1) e2) (congrArg (fun t => t.2.2.1) e2) (by rw [eI 53 (by decide)]) (eI 54 (by decide)) (eI 55 (by decide)) (fun g' M hg => eI g' (fun z => ?_)), ?_⟩, k2⟩
  · rw [z] at hg; rw [hg] at k0; exact absurd k0 (show ¬ (21 : Nat) = 9 by decide)
  · obtain ⟨b, hb, e⟩ := g.2.2
    exact ⟨b, hb, by rw [show u.2.2.1 = σ.2.2.1 from congrArg (fun t => t.2.1) e2]; exact e⟩
/-- what a block's first note begins with -/
def mlC (rb nb : Int32) : List Int32 := if (¬ rb = 0) ∧ nb = 0 then encR [tb 5] else []
theorem kx_note (ty : kTY σ) (g : KO B σ ws nm ks) {b : Nat} (hb : b ∈ [5, 7]) {l : List Int32} (jn : JN b σ l) (h10 : σ.2.2.1 0 10 = some b) {j : Nat} {w1 wv : List Int32} (hf : NTF σ ws j w1 wv) (hlen : (l ++ mlC (σ.1 0 13) (σ.1 0 14) ++ encR (ntC (σ.1 53 13) (σ.1 53 15) (σ.2.1 53 16) j ws w1 wv)).length ≤ 210000) :
    kjY kPP (kQQ Y) (d + 8) 29 0 (mjL0 2 [.ref 0]) [] σ (fun r u => r = none ∧ KO B u ws nm ks ∧ JN b u (l ++ mlC (σ.1 0 13) (σ.1 0 14) ++ encR (ntC (σ.1 53 13) (σ.1 53 15) (σ.2.1 53 16) j ws w1 wv)) ∧ Ch false (njF b) [(b, 1)] σ u ∧ ((¬ σ.1 0 13 = 0) → u.1 0 14 = 1 ∨ u.1 0 14 = σ.1 0 14 ∧ ¬ σ.1 0 14 = 0)) := by
  obtain ⟨b1, -, b3, b4, -⟩ := J_ok b hb
  have plain : mlC (σ.1 0 13) (σ.1 0 14) = [] → ((¬ σ.1 0 13 = 0) → ¬ σ.1 0 14 = 0) → kjY kPP (kQQ Y) (d + 8) 29 17 [some (.ref 0), none] [] σ (fun r u => r = none ∧ KO B u ws nm ks ∧ JN b u (l ++ mlC (σ.1 0 13) (σ.1 0 14) ++ encR (ntC (σ.1 53 13) (σ.1 53 15) (σ.2.1 53 16) j ws w1 wv)) ∧ Ch false (njF b) [(b, 1)] σ u ∧ ((¬ σ.1 0 13 = 0) → u.1 0 14 = 1 ∨ u.1 0 14 = σ.1 0 14 ∧ ¬ σ.1 0 14 = 0)) := by
    intro hm hnz
    rw [hm, List.append_nil] at hlen ⊢
    refine kjY_mono ty (fun r z _ _ h => ?_) (kx_note17 (d := d) ty g hb jn h10 hf hlen)
    obtain ⟨q1, q2, q3, q4⟩ := h
    exact ⟨q1, q2, q3, q4.up (fun z => z) (fun p hp => List.mem_cons_of_mem _ hp) (fun p hp => hp), fun hz => Or.inr ⟨(J_fld ty hb q4 (h := 0) (x := 14) (c := 9) (by decide) rfl (by decide) (fun z => b4 z.symm)).1, hnz hz⟩⟩
  refine kjZ_y rfl rfl 3 _ _ _ _ ty ?_
  refine (And.intro (ty.k (by decide) rfl) (And.intro (fun c1 => ?_) (fun c1 => ?_)))
  · exact plain (if_neg (fun z => z.1 c1)) (fun z => absurd c1 z)
  refine kjZ_y rfl rfl 3 _ _ _ _ ty ?_
  refine (And.intro (ty.k (by decide) rfl) (And.intro (fun c2 => ?_) (fun c2 => ?_)))
  · exact plain (if_neg (fun z => c2 z.2)) (fun _ => c2)
  have c2 : σ.1 0 14 = 0 := Decidable.of_not_not c2
  have hm : mlC (σ.1 0 13) (σ.1 0 14) = encR [tb 5] := if_pos ⟨c1, c2⟩
  rw [hm] at hlen ⊢
  have eM : encR [tb 5] = hdN 1 ++ wordL (tb 5) := by
    rw [encR_hd, wdsL_cons]; show hdN 1 ++ (wordL (tb 5) ++ []) = _; rw [List.append_nil]
  rw [eM] at hlen ⊢
  have hll := hlen
  rw [List.length_append, List.length_append, List.length_append] at hll
  have kb := ob_k ty b1
  have hJ : kjY kPP (kQQ Y) (d + 7) 60 0 (mjL0 2 [.ref b, .int (Int32.ofInt 1)]) [] σ (jP B b σ ws nm ks (l ++ hdN 1)) := by
    refine kjY_mono ty (fun r z _ _ h => g.jr ty hb jn h (by show l.length + (hdN 1).length ≤ _; omega)) (k_rowHead (d := d + 2) ty g.1.1.1 b1 jn.1 (Int32.ofInt 1) (n := 1) rfl (by decide) (opQ_j hb g.1.1.2 l ?_))
    have : (hdN 1).length = (dec (lN 1)).length + 3 := by unfold hdN; rw [List.length_append, List.length_cons]; rfl
    omega
  refine kjZ_y rfl rfl 4 _ _ _ _ ty ?_
  refine (And.intro (ty.k (by decide) rfl) (Exists.intro _ (And.intro h10 (And.intro (Nat.le_of_ble_eq_true rfl) (And.intro (Or.inl ⟨(Nat.le_of_ble_eq_true rfl), (by assumption)⟩) (And.intro (Nat.le_of_ble_eq_true rfl) (And.intro (Nat.le_of_ble_eq_true rfl) (kjY_mono ty (fun q_ u1 ty1 xu1 h_ => ?_) (hJ)))))))))
  obtain ⟨rfl, g1, j1, d1⟩ := h_
  intro _ _
  have i10 : u1.2.2.1 0 10 = some b := by rw [(J_fld ty hb d1 (h := 0) (x := 10) (c := 9) (by decide) rfl (by decide) (fun z => b4 z.symm)).2.2]; exact h10
  have kb1 := ob_k ty1 b1
  refine kjZ_y rfl rfl 4 _ _ _ _ ty1 ?_
  refine (And.intro (ty1.k (by decide) rfl) (Exists.intro _ (And.intro i10 (And.intro rfl (And.intro (Nat.le_of_ble_eq_true rfl) (And.intro (Or.inl ⟨(Nat.le_of_ble_eq_true rfl), (by assumption)⟩) (And.intro (Nat.le_of_ble_eq_true rfl) (And.intro (Nat.le_of_ble_eq_true rfl) (kjY_mono ty1 (fun q_ u2 ty2 xu2 h_ => ?_) (j_text (d := d + 1) ty1 g1 hb j1 (i := 5) (by decide) (by rw [List.length_append]; omega)))))))))))
  obtain ⟨rfl, g2, j2, d2⟩ := h_
  intro _ _
  have d12 := J_tr ty hb d1 d2
  have e0 : ∀ x, u2.1 0 x = σ.1 0 x ∧ u2.2.1 0 x = σ.2.1 0 x ∧ u2.2.2.1 0 x = σ.2.2.1 0 x := fun x => J_fld ty hb d12 (h := 0) (x := x) (c := 9) (by decide) rfl (by decide) (fun z => b4 z.symm)
  have e53 : ∀ x, u2.1 53 x = σ.1 53 x ∧ u2.2.1 53 x = σ.2.1 53 x ∧ u2.2.2.1 53 x = σ.2.2.1 53 x := fun x => J_fld ty hb d12 (h := 53) (x := x) (c := 3) (by decide) rfl (by decide) (fun z => b3 z.symm)
  refine kjZ_y rfl rfl 3 _ _ _ _ ty2 ?_
  refine (And.intro (ty2.k (by decide) rfl) (And.intro (Or.inr ⟨rfl, Or.inr rfl⟩) (fun ty2' => ?_)))
  have go : ∀ z, kTY z → z = (mjIu u2.1 0 14 (Int32.ofInt 1), u2.2) → kjY kPP (kQQ Y) (d + 8) 29 17 [some (.ref 0), none] [] z (fun r u => r = none ∧ KO B u ws nm ks ∧ JN b u (l ++ (hdN 1 ++ wordL (tb 5)) ++ encR (ntC (σ.1 53 13) (σ.1 53 15) (σ.2.1 53 16) j ws w1 wv)) ∧ Ch false (njF b) [(b, 1)] σ u ∧ ((¬ σ.1 0 13 = 0) → u.1 0 14 = 1 ∨ u.1 0 14 = σ.1 0 14 ∧ ¬ σ.1 0 14 = 0)) := by
    intro z tz ez
    obtain ⟨g3, o3⟩ := g2.oi ty2 (by decide) ez
    have zI : ∀ h, ¬ h = 0 → z.1 h = u2.1 h := fun h y => by rw [ez]; show mjIu u2.1 0 14 _ h = _; rw [mjIu_n y]
    have z2 : z.2 = u2.2 := by rw [ez]
    have zF : z.2.2.1 = u2.2.2.1 := congrArg (fun t => t.2.1) z2
    have zL : z.2.1 = u2.2.1 := congrArg (fun t => t.1) z2
    have jz : JN b z (l ++ (hdN 1 ++ wordL (tb 5))) := by
      rw [← List.append_assoc]
      exact ⟨o3 b b1 _ j2.1, by rw [zI b b4]; exact j2.2.1, fun g' hg' => by rw [zF] at hg' ⊢; exact j2.2.2 g' hg'⟩
    have z53 : ∀ x, z.1 53 x = σ.1 53 x ∧ z.2.1 53 x = σ.2.1 53 x ∧ z.2.2.1 53 x = σ.2.2.1 53 x := fun x => ⟨by rw [zI 53 (by decide)]; exact (e53 x).1, by rw [zL]; exact (e53 x).2.1, by rw [zF]; exact (e53 x).2.2⟩
    have hfz : NTF z ws j w1 wv := by
      obtain ⟨a1, a2, a3⟩ := hf
      refine ⟨⟨by rw [(z53 8).2.2]; exact a1.1, a1.2⟩, a2, ?_⟩
      rw [(z53 13).1, (z53 14).1]; exact a3
    have h10z : z.2.2.1 0 10 = some b := by rw [zF, (e0 10).2.2]; exact h10
    have ch : Ch false (njF b) [(b, 1)] σ z := by
      have c0 : Ch false [(0, 14)] [] u2 z := by rw [ez]; exact Ch_i (by rw [ty2.k (h := 0) (c := 9) (by decide) rfl]; decide)
      exact Ch.tr ty (fun q hq => by rw [List.mem_singleton.mp hq]; exact ow_b b1) (d12.up (fun z => z) (fun p hp => List.mem_cons_of_mem _ hp) (fun p hp => hp)) (c0.up (fun z => z) (fun p hp => by rw [List.mem_singleton.mp hp]; exact List.mem_cons_self) (fun p hp => by cases hp))
    have hq : ntC (z.1 53 13) (z.1 53 15) (z.2.1 53 16) j ws w1 wv = ntC (σ.1 53 13) (σ.1 53 15) (σ.2.1 53 16) j ws w1 wv := by rw [(z53 13).1, (z53 15).1, (z53 16).2.1]
    refine kjY_mono tz (fun r y _ _ h => ?_) (kx_note17 (d := d) tz g3 hb jz h10z hfz (by rw [hq]; exact hlen))
    obtain ⟨q1, q2, q3, q4⟩ := h
    rw [hq] at q3
    refine ⟨q1, q2, q3, nj_tr ty hb ch q4, fun _ => Or.inl ?_⟩
    rw [(J_fld tz hb q4 (h := 0) (x := 14) (c := 9) (by decide) rfl (by decide) (fun z => b4 z.symm)).1, ez]
    show mjIu u2.1 0 14 _ 0 14 = _
    rw [mjIu_p]; rfl
  exact go _ ty2' rfl
end KNOTE4
