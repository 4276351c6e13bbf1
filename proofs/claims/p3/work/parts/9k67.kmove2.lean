/-! LMOVE, RPOPLPUSH, whole. -/
section KMOVE2
variable {Y : Nat → MethodName × ByteArray} {d : Nat} {σ0 σ u : kS} {B ws nm nm' : List (List Int32)} {ks : List KC}
abbrev isJ (i : Nat) (v : List Int32) : Prop := v.map up = tb i
/-- refused: one of two keys -/
def rfY (rp : Int32) (ks : List KC) (j : Nat) (v w : List Int32) (s : Nat) : Prop := fuB rp ks j ∨ soT (skA ks) v (nI s) = false ∨ soT (skA ks) w (nI s) = false
theorem rf2 (w : KWd σ0 B σ ws nm ks) {j s : Nat} {v v2 : List Int32} (hv : ws[1]? = some v) (hv2 : ws[2]? = some v2) : (fullB σ j ∨ ∃ i v, 1 ≤ i ∧ i ≤ 2 ∧ ws[i]? = some v ∧ soT (skA ks) v (nI s) = false) ↔ rfY (σ.1 59 17) ks j v v2 s := by
  unfold rfY fullB fuB
  rw [w.mem]
  constructor
  · rintro (h | ⟨i, v', h1, h2, h3, h4⟩)
    · exact Or.inl h
    · have e : i = 1 ∨ i = 2 := by omega
      rcases e with e | e
      · subst e; rw [hv] at h3; cases h3; exact Or.inr (Or.inl h4)
      · subst e; rw [hv2] at h3; cases h3; exact Or.inr (Or.inr h4)
  · rintro (h | h | h)
    · exact Or.inl h
    · exact Or.inr ⟨1, v, Nat.le_refl _, by decide, hv, h⟩
    · exact Or.inr ⟨2, v2, by decide, Nat.le_refl _, hv2, h⟩
theorem kx_mv47 (ty : kTY σ) (w : KWd σ0 B σ ws nm ks) (hr : RSD ks) (hB : BOK B ws) {j : Nat} (hj : CMD σ j) {w1 w2 : List Int32} (hv : ws[1]? = some w1) (hv2 : ws[2]? = some w2) (hE : ∀ x ∈ ks, ¬ emB x) (hk1 : ks.length + 1 ≤ 2600) (hcl : 3 * (clA (skA ks) + 1) ≤ 49000) (x1 fl x3 : Int32) {o : Option (List AK)} (ho2 : rfY (σ.1 59 17) ks j w1 w2 1 → o = none) (ho3 : ¬ rfY (σ.1 59 17) ks j w1 w2 1 → o = mvF (skA ks) w1 w2 fl x3) :
    kjY kPP (kQQ Y) (d + 7) 200 47 [some (.ref 70), some (.int x1), some (.int fl), some (.int x3), none, none, none, none, none, none] [] σ (cdP σ0 B σ ws nm ks o) := by
  have hlen := (List.getElem?_eq_some_iff.mp hv2).1
  refine kjZ_y rfl rfl 6 _ _ _ _ ty ?_
  refine (And.intro (ty.k (by decide) rfl) (And.intro (Nat.le_of_ble_eq_true rfl) (And.intro (Or.inl ⟨(Nat.le_of_ble_eq_true rfl), (ty.k (by decide) rfl)⟩) (And.intro (Nat.le_of_ble_eq_true rfl) (And.intro (Nat.le_of_ble_eq_true rfl) (kjY_mono ty (fun q_ u1 ty1 xu1 h_ => ?_) (kx_refuses ty w hB hj (a := 1) (b := 2) (by omega) (by omega) (s := 1) (by decide) _ _ _ rfl rfl rfl)))))))
  obtain ⟨nm1, p1, w1', s1, q⟩ := h_
  intro _ _
  rw [rf2 w hv hv2] at q
  rcases q with ⟨rfl, q⟩ | ⟨rfl, q⟩
  · refine kjZ_y rfl rfl 1 _ _ _ _ ty1 ?_
    refine And.intro (fun c => ?_) (fun c => ?_)
    · exact absurd (show (1 : Int32) = 0 from c) (by decide)
    refine kjZ_y rfl rfl 1 _ _ _ _ ty1 ?_
    refine And.intro rfl (And.intro rfl ?_)
    exact cd_no p1 w1' hr s1.h (ho2 q)
  have ho := ho3 q
  have hso1 := fun z => q (Or.inr (Or.inl z))
  have hso2 := fun z => q (Or.inr (Or.inr z))
  refine kjZ_y rfl rfl 1 _ _ _ _ ty1 ?_
  refine And.intro (fun c => ?_) (fun c => ?_)
  rotate_left
  · exact absurd rfl c
  refine kjZ_y rfl rfl 4 _ _ _ _ ty1 ?_
  refine (And.intro (ty1.k (by decide) rfl) (And.intro (Nat.le_of_ble_eq_true rfl) (And.intro (Or.inl ⟨(Nat.le_of_ble_eq_true rfl), (ty1.k (by decide) rfl)⟩) (And.intro (Nat.le_of_ble_eq_true rfl) (And.intro (Nat.le_of_ble_eq_true rfl) (kjY_mono ty1 (fun q_ u2 ty2 xu2 h_ => ?_) (kx_id ty1 w1' hB hv _ rfl)))))))
  obtain ⟨k, nm2, rfl, p2, p3, w2', s2⟩ := h_
  intro _ _
  refine kjZ_y rfl rfl 5 _ _ _ _ ty2 ?_
  refine (And.intro (Nat.le_of_ble_eq_true rfl) (And.intro (ty2.k (by decide) rfl) (And.intro (Nat.le_of_ble_eq_true rfl) (And.intro (Or.inl ⟨(Nat.le_of_ble_eq_true rfl), (ty2.k (by decide) rfl)⟩) (And.intro (Nat.le_of_ble_eq_true rfl) (And.intro (Nat.le_of_ble_eq_true rfl) (kjY_mono ty2 (fun q_ u3 ty3 xu3 h_ => ?_) (kx_id ty2 w2' hB hv2 _ rfl))))))))
  obtain ⟨k2, nm3, rfl, p4, p5, w3, s3⟩ := h_
  intro _ _
  have p2' := p5.get p2
  refine kjZ_y rfl rfl 5 _ _ _ _ ty3 ?_
  refine (And.intro (Nat.le_of_ble_eq_true rfl) (And.intro (ty3.k (by decide) rfl) (And.intro (Nat.le_of_ble_eq_true rfl) (And.intro (Or.inl ⟨(Nat.le_of_ble_eq_true rfl), (ty3.k (by decide) rfl)⟩) (And.intro (Nat.le_of_ble_eq_true rfl) (And.intro (Nat.le_of_ble_eq_true rfl) (kjY_mono ty3 (fun q_ u4 ty4 xu4 h_ => ?_) (kx_find ty3 w3 p2' _ rfl))))))))
  obtain ⟨rfl, q3⟩ := h_
  intro _ _
  have sA := (s1.tr s2).tr s3
  have pA := (p1.tr p3).tr p5
  obtain ⟨b, hb, eb⟩ := w3.2.2.2.2.2.2.1
  have kb := ob_k ty4 (ANn_b b (ANb_n b hb)).1
  rcases q3 with ⟨rfl, q3⟩ | ⟨P, y, Q, rfl, f0, f1, f2⟩
  · refine kjZ_y rfl rfl 7 _ _ _ _ ty4 ?_
    refine (And.intro (Nat.le_of_ble_eq_true rfl) (And.intro (ty4.k (by decide) rfl) (And.intro (ty4.k (by decide) rfl) (Exists.intro _ (And.intro eb (And.intro (Nat.le_of_ble_eq_true rfl) (And.intro (Or.inl ⟨(Nat.le_of_ble_eq_true rfl), (by assumption)⟩) (And.intro (Nat.le_of_ble_eq_true rfl) (And.intro (Nat.le_of_ble_eq_true rfl) (kjY_mono ty4 (fun q_ u5 ty5 xu5 h_ => ?_) (kx_nil ty4 w3 hb)))))))))))
    obtain ⟨rfl, w5, s5⟩ := h_
    intro _ _
    refine kjZ_y rfl rfl 1 _ _ _ _ ty5 ?_
    refine And.intro rfl (And.intro rfl ?_)
    exact cd_no pA w5 hr (sA.tr s5).h (by rw [ho]; unfold mvF; rw [q3])
  subst f0
  have hs1 : y.2.2.2.2.2.2.1 = 1 := so_1 (s := 1) f2 hso1
  have hs0 : ¬ y.2.2.2.2.2.2.1 = 0 := by rw [hs1]; decide
  obtain ⟨z1, z2, kv⟩ := w3.sz hs0
  have hne : y.2.2.2.2.2.2.2.2.2.2 ≠ [] := fun z => hE y (List.mem_append_right _ List.mem_cons_self) ⟨hs0, z⟩
  have hpos : 0 < y.2.2.2.2.2.2.2.2.2.2.length := List.length_pos_iff.mpr hne
  have go : ∀ (i : Nat) (x7 : Int32), x7 = nI i → i + 1 ≤ y.2.2.2.2.2.2.2.2.2.2.length → cutL y.2.2.2.2.2.2.2.2.2.2 i 1 = drE fl y.2.2.2.2.2.2.2.2.2.2 → (∃ z, y.2.2.2.2.2.2.2.2.2.2[i]? = some z ∧ z.1 = piW fl y.2.2.2.2.2.2.2.2.2.2) → kjY kPP (kQQ Y) (d + 7) 200 85 [some (.ref 70), some (.int x1), some (.int fl), some (.int x3), some (.int (nI k)), some (.int (nI k2)), some (.ref y.1), none, none, none] [.int x7] u4 (cdP σ0 B σ ws nm (P ++ y :: Q) o) := by
    intro i x7 e7 hi hcut hz
    refine kjZ_y rfl rfl 4 _ _ _ _ ty4 ?_
    refine (And.intro (Nat.le_of_ble_eq_true rfl) (And.intro (Nat.le_of_ble_eq_true rfl) (And.intro (Or.inl ⟨(Nat.le_of_ble_eq_true rfl), (by assumption)⟩) (And.intro (Nat.le_of_ble_eq_true rfl) (And.intro (Nat.le_of_ble_eq_true rfl) (kjY_mono ty4 (fun q_ u5 ty5 xu5 h_ => ?_) (kx_vat ty4 w3 _)))))))
    obtain ⟨rfl, x8, rfl, q8⟩ := h_
    intro _ _
    obtain ⟨z, hz1, hz2⟩ := hz
    obtain ⟨k8, e8, hk8⟩ := q8 (Or.inl hs1) i z e7 hz1
    rw [hz2] at hk8
    refine kjZ_y rfl rfl 8 _ _ _ _ ty5 ?_
    refine (And.intro (Nat.le_of_ble_eq_true rfl) (And.intro (ty5.k (by decide) rfl) (And.intro (ty5.k (by decide) rfl) (And.intro (ty5.k (by decide) rfl) (Exists.intro _ (And.intro eb (And.intro (Nat.le_of_ble_eq_true rfl) (And.intro (Or.inl ⟨(Nat.le_of_ble_eq_true rfl), (ty5.k (by decide) rfl)⟩) (And.intro (Nat.le_of_ble_eq_true rfl) (And.intro (Nat.le_of_ble_eq_true rfl) (kjY_mono ty5 (fun q_ u6 ty6 xu6 h_ => ?_) (kx_copyWord ty5 w3 hb _))))))))))))
    obtain ⟨rfl, w6, s6⟩ := h_
    intro _ _
    refine kjY_mono ty6 (fun r z tz xz hz => hz.pre (sA.tr s6).h pA) (kx_mv97 (d := d) ty6 w6 hr hs1 p2' p4 f1 f2 hso2 fl hk8 hi hcut hk1 hcl x1 fl x3 _ _ x7 x8 rfl rfl e7 e8 ho)
  refine kjZ_y rfl rfl 3 _ _ _ _ ty4 ?_
  refine (And.intro (Nat.le_of_ble_eq_true rfl) ?_)
  refine kjZ_y rfl rfl 2 _ _ _ _ ty4 ?_
  refine And.intro (fun c => ?_) (fun c => ?_)
  · have c : fl = 0 := c
    refine kjZ_y rfl rfl 4 _ _ _ _ ty4 ?_
    refine (And.intro (by assumption) ?_)
    refine go (y.2.2.2.2.2.2.2.2.2.2.length - 1) _ ?_ (by omega) ?_ ?_
    · show u4.1 y.1 6 - Int32.ofInt 1 = _
      rw [z1, show (Int32.ofInt 1) = nI 1 from rfl, pk_sub (by omega)]
    · unfold drE; rw [if_pos c, cutL_l]
    · unfold piW; rw [if_pos c]; exact laW_at _ hne
  · have c : ¬ fl = 0 := c
    refine kjZ_y rfl rfl 2 _ _ _ _ ty4 ?_
    refine go 0 _ rfl (by omega) ?_ ?_
    · unfold drE; rw [if_neg c, cutL_f]
    · unfold piW; rw [if_neg c]; exact hdW_at _ hne
/-- the ends that are told -/
def lmC (x1 : Int32) (a3 a4 : List Int32) : Option (Int32 × Int32) := if x1 = 0 then some (0, 1) else if (isJ 151 a3 ∨ isJ 152 a3) ∧ (isJ 151 a4 ∨ isJ 152 a4) then some (if isJ 151 a3 then 1 else 0, if isJ 151 a4 then 1 else 0) else none
theorem kx_lmove (ty : kTY σ) (w : KWd σ0 B σ ws nm ks) (hr : RSD ks) (hB : BOK B ws) {j : Nat} (hj : CMD σ j) {w1 w2 : List Int32} (hv : ws[1]? = some w1) (hv2 : ws[2]? = some w2) (hE : ∀ x ∈ ks, ¬ emB x) (hk1 : ks.length + 1 ≤ 2600) (hcl : 3 * (clA (skA ks) + 1) ≤ 49000) (x1 : Int32) (a3 a4 : List Int32) (h34 : ¬ x1 = 0 → ws[3]? = some a3 ∧ ws[4]? = some a4) {o : Option (List AK)} (ho0 : lmC x1 a3 a4 = none → o = none) (ho2 : rfY (σ.1 59 17) ks j w1 w2 1 → o = none) (ho3 : ∀ fl tl, lmC x1 a3 a4 = some (fl, tl) → ¬ rfY (σ.1 59 17) ks j w1 w2 1 → o = mvF (skA ks) w1 w2 fl tl) :
    kjY kPP (kQQ Y) (d + 7) 200 0 (mjL0 10 [.ref 70, .int x1]) [] σ (cdP σ0 B σ ws nm ks o) := by
  by_cases c0 : x1 = 0
  · have e : lmC x1 a3 a4 = some (0, 1) := if_pos c0
    refine kjZ_y rfl rfl 2 _ _ _ _ ty ?_
    refine And.intro (fun c => ?_) (fun c => ?_)
    rotate_left
    · exact absurd c0 c
    refine kjZ_y rfl rfl 2 _ _ _ _ ty ?_
    refine (And.intro (Nat.le_of_ble_eq_true rfl) ?_)
    refine kjZ_y rfl rfl 2 _ _ _ _ ty ?_
    refine And.intro (fun c => ?_) (fun c => ?_)
    rotate_left
    · exact absurd c0 c
    refine kjZ_y rfl rfl 3 _ _ _ _ ty ?_
    refine (And.intro (Nat.le_of_ble_eq_true rfl) ?_)
    refine kjZ_y rfl rfl 2 _ _ _ _ ty ?_
    refine And.intro (fun c => ?_) (fun c => ?_)
    rotate_left
    · exact absurd c0 c
    exact kx_mv47 ty w hr hB hj hv hv2 hE hk1 hcl x1 _ _ ho2 (ho3 0 1 e)
  obtain ⟨h3, h4⟩ := h34 c0
  have isX : ∀ (z : kS) (i k : Nat) (v : List Int32) {r : Option Value}, ws[k]? = some v → ((r = some (.int 1) ∧ ∃ v, ws[k]? = some v ∧ v.map up = tb i) ∨ (r = some (.int 0) ∧ ∀ v, ws[k]? = some v → ¬ v.map up = tb i)) → (r = some (.int 1) ∧ isJ i v) ∨ (r = some (.int 0) ∧ ¬ isJ i v) := by
    intro z i k v r hv q
    rcases q with ⟨q1, v', q2, q3⟩ | ⟨q1, q2⟩
    · rw [hv] at q2; cases q2; exact Or.inl ⟨q1, q3⟩
    · exact Or.inr ⟨q1, q2 v hv⟩
  have bad : lmC x1 a3 a4 = none → ∀ x2 x3 : Int32, kjY kPP (kQQ Y) (d + 7) 200 42 [some (.ref 70), some (.int x1), some (.int x2), some (.int x3), none, none, none, none, none, none] [] σ (cdP σ0 B σ ws nm ks o) := by
    intro h x2 x3
    refine kjZ_y rfl rfl 4 _ _ _ _ ty ?_
    refine (And.intro (ty.k (by decide) rfl) (And.intro rfl (And.intro (Nat.le_of_ble_eq_true rfl) (And.intro (Or.inl ⟨(Nat.le_of_ble_eq_true rfl), (ty.k (by decide) rfl)⟩) (And.intro (Nat.le_of_ble_eq_true rfl) (And.intro (Nat.le_of_ble_eq_true rfl) (kjY_mono ty (fun q_ u1 ty1 xu1 h_ => ?_) (kx_refuse ty w (by decide)))))))))
    obtain ⟨rfl, w1, s1⟩ := h_
    intro _ _
    refine kjZ_y rfl rfl 1 _ _ _ _ ty1 ?_
    refine And.intro rfl (And.intro rfl ?_)
    exact cd_no PRE.rf w1 hr s1.h (ho0 h)
  have s24 : ∀ x2 x3 : Int32, x2 = (if isJ 151 a3 then 1 else 0) → x3 = (if isJ 151 a4 then 1 else 0) → kjY kPP (kQQ Y) (d + 7) 200 24 [some (.ref 70), some (.int x1), some (.int x2), some (.int x3), none, none, none, none, none, none] [] σ (cdP σ0 B σ ws nm ks o) := by
    intro x2 x3 e2 e3
    have ok : (isJ 151 a3 ∨ isJ 152 a3) ∧ (isJ 151 a4 ∨ isJ 152 a4) → kjY kPP (kQQ Y) (d + 7) 200 47 [some (.ref 70), some (.int x1), some (.int x2), some (.int x3), none, none, none, none, none, none] [] σ (cdP σ0 B σ ws nm ks o) := by
      intro h
      have e : lmC x1 a3 a4 = some (x2, x3) := by unfold lmC; rw [if_neg c0, if_pos h, e2, e3]
      exact kx_mv47 ty w hr hB hj hv hv2 hE hk1 hcl x1 _ _ ho2 (ho3 x2 x3 e)
    have no : ¬ ((isJ 151 a3 ∨ isJ 152 a3) ∧ (isJ 151 a4 ∨ isJ 152 a4)) → lmC x1 a3 a4 = none := fun h => by unfold lmC; rw [if_neg c0, if_neg h]
    have s34 : (isJ 151 a3 ∨ isJ 152 a3) → kjY kPP (kQQ Y) (d + 7) 200 34 [some (.ref 70), some (.int x1), some (.int x2), some (.int x3), none, none, none, none, none, none] [] σ (cdP σ0 B σ ws nm ks o) := by
      intro h
      refine kjZ_y rfl rfl 2 _ _ _ _ ty ?_
      refine And.intro (fun c => ?_) (fun c => ?_)
      · have c : ¬ x3 = 0 := c
        refine ok ⟨h, Or.inl (Decidable.byContradiction fun z => c (by rw [e3, if_neg z]))⟩
      · have c : x3 = 0 := Decidable.of_not_not (fun z => c z)
        have n1 : ¬ isJ 151 a4 := fun z => by rw [e3, if_pos z] at c; exact absurd c (by decide)
        refine kjZ_y rfl rfl 5 _ _ _ _ ty ?_
        refine (And.intro (ty.k (by decide) rfl) (And.intro rfl (And.intro (Nat.le_of_ble_eq_true rfl) (And.intro (Or.inl ⟨(Nat.le_of_ble_eq_true rfl), (ty.k (by decide) rfl)⟩) (And.intro (Nat.le_of_ble_eq_true rfl) (And.intro (Nat.le_of_ble_eq_true rfl) (kjY_mono ty (fun q_ u1 ty1 xu1 h_ => ?_) (kx_is ty w (i := 152) (by decide) 4 (by decide) _ rfl))))))))
        obtain ⟨rfl, q1⟩ := h_
        intro _ _
        rcases isX u1 152 4 a4 h4 q1 with ⟨rfl, q2⟩ | ⟨rfl, q2⟩
        · refine kjZ_y rfl rfl 1 _ _ _ _ ty1 ?_
          refine And.intro (fun c2 => ?_) (fun c2 => ?_)
          · exact ok ⟨h, Or.inr q2⟩
          · exact absurd (show ¬ (1 : Int32) = 0 by decide) c2
        · refine kjZ_y rfl rfl 1 _ _ _ _ ty1 ?_
          refine And.intro (fun c2 => ?_) (fun c2 => ?_)
          · exact absurd rfl c2
          exact bad (no (fun z => z.2.elim n1 q2)) _ _
    refine kjZ_y rfl rfl 2 _ _ _ _ ty ?_
    refine And.intro (fun c => ?_) (fun c => ?_)
    · exact absurd (show x1 = 0 from c) c0
    refine kjZ_y rfl rfl 2 _ _ _ _ ty ?_
    refine And.intro (fun c2 => ?_) (fun c2 => ?_)
    · have c2 : ¬ x2 = 0 := c2
      exact s34 (Or.inl (Decidable.byContradiction fun z => c2 (by rw [e2, if_neg z])))
    · have c2 : x2 = 0 := Decidable.of_not_not (fun z => c2 z)
      have n1 : ¬ isJ 151 a3 := fun z => by rw [e2, if_pos z] at c2; exact absurd c2 (by decide)
      refine kjZ_y rfl rfl 5 _ _ _ _ ty ?_
      refine (And.intro (ty.k (by decide) rfl) (And.intro rfl (And.intro (Nat.le_of_ble_eq_true rfl) (And.intro (Or.inl ⟨(Nat.le_of_ble_eq_true rfl), (ty.k (by decide) rfl)⟩) (And.intro (Nat.le_of_ble_eq_true rfl) (And.intro (Nat.le_of_ble_eq_true rfl) (kjY_mono ty (fun q_ u1 ty1 xu1 h_ => ?_) (kx_is ty w (i := 152) (by decide) 3 (by decide) _ rfl))))))))
      obtain ⟨rfl, q1⟩ := h_
      intro _ _
      rcases isX u1 152 3 a3 h3 q1 with ⟨rfl, q2⟩ | ⟨rfl, q2⟩
      · refine kjZ_y rfl rfl 1 _ _ _ _ ty1 ?_
        refine And.intro (fun c3 => ?_) (fun c3 => ?_)
        · exact absurd (show (1 : Int32) = 0 from c3) (by decide)
        exact s34 (Or.inr q2)
      · refine kjZ_y rfl rfl 1 _ _ _ _ ty1 ?_
        refine And.intro (fun c3 => ?_) (fun c3 => ?_)
        · exact bad (no (fun z => z.1.elim n1 q2)) _ _
        · exact absurd rfl c3
  have s12 : ∀ x2 : Int32, x2 = (if isJ 151 a3 then 1 else 0) → kjY kPP (kQQ Y) (d + 7) 200 12 [some (.ref 70), some (.int x1), some (.int x2), none, none, none, none, none, none, none] [] σ (cdP σ0 B σ ws nm ks o) := by
    intro x2 e2
    refine kjZ_y rfl rfl 2 _ _ _ _ ty ?_
    refine And.intro (fun c => ?_) (fun c => ?_)
    · exact absurd (show x1 = 0 from c) c0
    refine kjZ_y rfl rfl 5 _ _ _ _ ty ?_
    refine (And.intro (ty.k (by decide) rfl) (And.intro rfl (And.intro (Nat.le_of_ble_eq_true rfl) (And.intro (Or.inl ⟨(Nat.le_of_ble_eq_true rfl), (ty.k (by decide) rfl)⟩) (And.intro (Nat.le_of_ble_eq_true rfl) (And.intro (Nat.le_of_ble_eq_true rfl) (kjY_mono ty (fun q_ u1 ty1 xu1 h_ => ?_) (kx_is ty w (i := 151) (by decide) 4 (by decide) _ rfl))))))))
    obtain ⟨rfl, q1⟩ := h_
    intro _ _
    rcases isX u1 151 4 a4 h4 q1 with ⟨rfl, q2⟩ | ⟨rfl, q2⟩
    · refine kjZ_y rfl rfl 1 _ _ _ _ ty1 ?_
      refine And.intro (fun c3 => ?_) (fun c3 => ?_)
      · exact absurd (show (1 : Int32) = 0 from c3) (by decide)
      refine kjZ_y rfl rfl 3 _ _ _ _ ty1 ?_
      refine (And.intro (Nat.le_of_ble_eq_true rfl) ?_)
      exact s24 x2 _ e2 (if_pos q2).symm
    · refine kjZ_y rfl rfl 1 _ _ _ _ ty1 ?_
      refine And.intro (fun c3 => ?_) (fun c3 => ?_)
      rotate_left
      · exact absurd rfl c3
      refine kjZ_y rfl rfl 2 _ _ _ _ ty1 ?_
      refine (And.intro (Nat.le_of_ble_eq_true rfl) ?_)
      exact s24 x2 _ e2 (if_neg q2).symm
  refine kjZ_y rfl rfl 2 _ _ _ _ ty ?_
  refine And.intro (fun c => ?_) (fun c => ?_)
  · exact absurd (show x1 = 0 from c) c0
  refine kjZ_y rfl rfl 5 _ _ _ _ ty ?_
  refine (And.intro (ty.k (by decide) rfl) (And.intro rfl (And.intro (Nat.le_of_ble_eq_true rfl) (And.intro (Or.inl ⟨(Nat.le_of_ble_eq_true rfl), (ty.k (by decide) rfl)⟩) (And.intro (Nat.le_of_ble_eq_true rfl) (And.intro (Nat.le_of_ble_eq_true rfl) (kjY_mono ty (fun q_ u1 ty1 xu1 h_ => ?_) (kx_is ty w (i := 151) (by decide) 3 (by decide) _ rfl))))))))
  obtain ⟨rfl, q1⟩ := h_
  intro _ _
  rcases isX u1 151 3 a3 h3 q1 with ⟨rfl, q2⟩ | ⟨rfl, q2⟩
  · refine kjZ_y rfl rfl 1 _ _ _ _ ty1 ?_
    refine And.intro (fun c3 => ?_) (fun c3 => ?_)
    · exact absurd (show (1 : Int32) = 0 from c3) (by decide)
    refine kjZ_y rfl rfl 3 _ _ _ _ ty1 ?_
    refine (And.intro (Nat.le_of_ble_eq_true rfl) ?_)
    exact s12 _ (if_pos q2).symm
  · refine kjZ_y rfl rfl 1 _ _ _ _ ty1 ?_
    refine And.intro (fun c3 => ?_) (fun c3 => ?_)
    rotate_left
    · exact absurd rfl c3
    refine kjZ_y rfl rfl 2 _ _ _ _ ty1 ?_
    refine (And.intro (Nat.le_of_ble_eq_true rfl) ?_)
    exact s12 _ (if_neg q2).symm
end KMOVE2
