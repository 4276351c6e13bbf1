/-! SET's words behind the text: all of them. -/
def OSI (u : kS) (ws : List (List Int32)) (f : F4) (o : Option (Nat × List Int32)) : Prop :=
  ((f.1 = 0 ∧ f.2.1 = 0 ∧ u.1 67 3 = 0) ∨ (f.1 = 1 ∧ f.2.1 = 0 ∧ u.1 67 3 = 1) ∨ (f.1 = 0 ∧ f.2.1 = 1 ∧ u.1 67 3 = 2)) ∧
  ((f.2.2.1 = 0 ∧ u.1 67 4 = 0) ∨ (f.2.2.1 = 1 ∧ u.1 67 4 = 1)) ∧
  ((f.2.2.2 = 0 ∧ o = none ∧ u.1 67 5 = 0 ∧ u.1 67 6 = 0) ∨ (f.2.2.2 = 1 ∧ o = none ∧ u.1 67 5 = 1 ∧ u.1 67 6 = 0) ∨ (f.2.2.2 = 0 ∧ ∃ m t i, o = some (m, t) ∧ m < 4 ∧ u.1 67 5 = nI (m + 2) ∧ u.1 67 6 = nI i ∧ 1 ≤ i ∧ ws[i]? = some t))
def scO : List (Nat × Nat) := [(53, 8), (53, 9), (53, 10), (53, 11), (53, 12), (53, 13), (53, 14), (53, 15), (53, 16), (59, 16), (59, 17), (59, 18)]
theorem scOA : ∀ p ∈ scO, p ∈ scA := by decide +kernel
/-- the word's own part of it -/
theorem osT_w (v : List Int32) (f : F4) (o : Option (Nat × List Int32)) : osT v f o = if v.map up = tb 170 ∧ f.1 = 0 ∧ f.2.1 = 0 then some (1, f.2.1, f.2.2.1, f.2.2.2) else if v.map up = tb 171 ∧ f.1 = 0 ∧ f.2.1 = 0 then some (f.1, 1, f.2.2.1, f.2.2.2) else if v.map up = tb 172 ∧ f.2.2.1 = 0 then some (f.1, f.2.1, 1, f.2.2.2) else if wyN v = 1 ∧ f.2.2.2 = 0 ∧ o = none then some (f.1, f.2.1, f.2.2.1, 1) else none := by
  have i1 : isF v 20056 = 1 ↔ v.map up = tb 170 := isT (by decide)
  have i2 : isF v 22616 = 1 ↔ v.map up = tb 171 := isT (by decide)
  have i3 : isF v 4670804 = 1 ↔ v.map up = tb 172 := isT (by decide)
  have i4 : isF v 21186787256063052 = 1 ↔ wyN v = 1 := (isT (by decide)).trans (wyN_1 v).symm
  unfold osT
  simp only [i1, i2, i3, i4]
section KOPT2
variable {Y : Nat → MethodName × ByteArray} {d : Nat} {σ0 σ u : kS} {B ws nm nm' : List (List Int32)} {ks : List KC}
def roP (σ0 : kS) (B : List (List Int32)) (σ : kS) (ws nm : List (List Int32)) (ks : List KC) (R : Option (F4 × Option (Nat × List Int32))) : kK := fun r u => KWd σ0 B u ws nm ks ∧ SCl scO σ u ∧ ((r = some (.int 0) ∧ R = none) ∨ ∃ f o, R = some (f, o) ∧ r = some (.int 1) ∧ OSI u ws f o)
theorem k_ropt_l {R : Option (F4 × Option (Nat × List Int32))} : ∀ (g i : Nat) (x1 : Int32) (l2 l3 : Option Value) (f : F4) (o : Option (Nat × List Int32)) (u : kS), i + g = ws.length → 3 ≤ i → x1 = nI i → kTY u → KWd σ0 B u ws nm ks → SCl scO σ u → OSI u ws f o → osF (ws.drop i) f o = R →
    kjY kPP (kQQ Y) (d + 8) 170 14 [some (.ref 67), some (.int x1), l2, l3] [] u (roP σ0 B σ ws nm ks R) := by
  intro g
  induction g using Nat.strongRecOn with
  | _ g ih =>
  intro i x1 l2 l3 f o u hi h3 e1 tu wu su hO hR
  obtain ⟨-, -, -, -, ⟨h4, h1024⟩, -⟩ := wu.2.2.2.1
  by_cases hg : g = 0
  · refine kjZ_y rfl rfl 5 _ _ _ _ tu ?_
    refine (And.intro (tu.k (by decide) rfl) (And.intro (tu.k (by decide) rfl) (And.intro (fun c => ?_) (fun c => ?_))))
    rotate_left
    · refine absurd (show u.1 53 4 ≤ x1 from ?_) c
      rw [h4, e1, nle (by omega) (by omega)]; omega
    rw [List.drop_eq_nil_of_le (by omega : ws.length ≤ i)] at hR
    refine kjZ_y rfl rfl 2 _ _ _ _ tu ?_
    refine And.intro rfl (And.intro (Or.inr (Or.inl ⟨rfl, Or.inr rfl⟩)) ?_)
    exact ⟨wu, su, Or.inr ⟨f, o, hR.symm, rfl, hO⟩⟩
  have hil : i < ws.length := by omega
  have hv : ws[i]? = some ws[i] := List.getElem?_eq_getElem hil
  have hdr : ws.drop i = ws[i] :: ws.drop (i + 1) := List.drop_eq_getElem_cons hil
  generalize ws[i] = v at hv hdr
  obtain ⟨o1, o2, o3⟩ := hO
  refine kjZ_y rfl rfl 5 _ _ _ _ tu ?_
  refine (And.intro (tu.k (by decide) rfl) (And.intro (tu.k (by decide) rfl) (And.intro (fun c => ?_) (fun c => ?_))))
  · refine absurd (show u.1 53 4 ≤ x1 from c) ?_
    rw [h4, e1, nle (by omega) (by omega)]; omega
  -- what osF does, by the word
  have step : ∀ f', osT v f o = some f' → osF (ws.drop (i + 1)) f' o = R := by
    intro f' hf
    rw [hdr] at hR
    cases hd : ws.drop (i + 1) with
    | nil =>
      rw [hd] at hR
      have hR : (osT v f o).map (fun f => (f, o)) = R := hR
      rw [hf] at hR; exact hR
    | cons t r =>
      rw [hd] at hR
      have hR : (match osT v f o with | some f' => osF (t :: r) f' o | none => (match osM v with | some m => if o = none ∧ f.2.2.2 = 0 then osF r f (some (m, t)) else none | none => none)) = R := hR
      rw [hf] at hR; exact hR
  have stop : osT v f o = none → (osM v = none ∨ ¬ (o = none ∧ f.2.2.2 = 0) ∨ ws.length ≤ i + 1) → R = none := by
    intro hf hh
    rw [hdr] at hR
    cases hd : ws.drop (i + 1) with
    | nil =>
      rw [hd] at hR
      have hR : (osT v f o).map (fun f => (f, o)) = R := hR
      rw [hf] at hR; exact hR.symm
    | cons t r =>
      rw [hd] at hR
      have hR : (match osT v f o with | some f' => osF (t :: r) f' o | none => (match osM v with | some m => if o = none ∧ f.2.2.2 = 0 then osF r f (some (m, t)) else none | none => none)) = R := hR
      rw [hf] at hR
      rcases hh with hh | hh | hh
      · rw [hh] at hR; exact hR.symm
      · cases hm : osM v with
        | none => rw [hm] at hR; exact hR.symm
        | some m =>
          rw [hm] at hR
          have hR : (if o = none ∧ f.2.2.2 = 0 then osF r f (some (m, t)) else none) = R := hR
          rw [if_neg hh] at hR; exact hR.symm
      · rw [List.drop_eq_nil_of_le hh] at hd; cases hd
  have two : ∀ m, osT v f o = none → osM v = some m → o = none ∧ f.2.2.2 = 0 → i + 1 < ws.length → ∃ t, ws[i + 1]? = some t ∧ osF (ws.drop (i + 2)) f (some (m, t)) = R := by
    intro m hf hm ho hl
    have hd : ws.drop (i + 1) = ws[i + 1] :: ws.drop (i + 2) := List.drop_eq_getElem_cons hl
    refine ⟨ws[i + 1], List.getElem?_eq_getElem hl, ?_⟩
    rw [hdr, hd] at hR
    have hR : (match osT v f o with | some f' => osF (ws[i + 1] :: ws.drop (i + 2)) f' o | none => (match osM v with | some m => if o = none ∧ f.2.2.2 = 0 then osF (ws.drop (i + 2)) f (some (m, ws[i + 1])) else none | none => none)) = R := hR
    rw [hf, hm] at hR
    have hR : (if o = none ∧ f.2.2.2 = 0 then osF (ws.drop (i + 2)) f (some (m, ws[i + 1])) else none) = R := hR
    rw [if_pos ho] at hR; exact hR
  have ow := osT_w v f o
  have nxt : ∀ (z : kS) (i' : Nat) (y1 y2 y3 : Int32) (f' : F4) (o' : Option (Nat × List Int32)), i ≤ i' → i' < ws.length → y1 = nI i' → kTY z → KWd σ0 B z ws nm ks → SCl scO σ z → OSI z ws f' o' → osF (ws.drop (i' + 1)) f' o' = R → kjY kPP (kQQ Y) (d + 8) 170 96 [some (.ref 67), some (.int y1), some (.int y2), some (.int y3)] [] z (roP σ0 B σ ws nm ks R) := by
    intro z i' y1 y2 y3 f' o' h1 h2 ey tz wz sz oz hz
    refine kjZ_y rfl rfl 2 _ _ _ _ tz ?_
    exact ih (ws.length - (i' + 1)) (by omega) (i' + 1) _ _ _ f' o' z (by omega) (by omega) (by rw [ey]; exact nI_1 i') tz wz sz oz hz
  have s94 : ∀ y2 y3 : Int32, R = none → kjY kPP (kQQ Y) (d + 8) 170 94 [some (.ref 67), some (.int x1), some (.int y2), some (.int y3)] [] u (roP σ0 B σ ws nm ks R) := by
    intro y2 y3 h
    refine kjZ_y rfl rfl 2 _ _ _ _ tu ?_
    refine And.intro rfl (And.intro (Or.inr (Or.inl ⟨rfl, Or.inl rfl⟩)) ?_)
    exact ⟨wu, su, Or.inl ⟨rfl, h⟩⟩
  have hwl : wyN v ≤ 5 := by rcases osM_w v with h | h <;> omega
  have s73 : ∀ y2 : Int32, osT v f o = none → kjY kPP (kQQ Y) (d + 8) 170 73 [some (.ref 67), some (.int x1), some (.int y2), some (.int (nI (wyN v)))] [] u (roP σ0 B σ ws nm ks R) := by
    intro y2 hT
    refine kjZ_y rfl rfl 3 _ _ _ _ tu ?_
    refine And.intro (fun c => ?_) (fun c => ?_)
    · have c : nI (wyN v) ≤ nI 1 := c
      rw [nle (by omega) (by decide)] at c
      refine s94 _ _ (stop hT (Or.inl ?_))
      rcases osM_w v with h | h
      · exact h.2
      · omega
    have c : ¬ nI (wyN v) ≤ nI 1 := c
    rw [nle (by omega) (by decide)] at c
    have hm : osM v = some (wyN v - 2) := by
      rcases osM_w v with h | h
      · omega
      · exact h.2.2
    refine kjZ_y rfl rfl 3 _ _ _ _ tu ?_
    refine (And.intro (tu.k (by decide) rfl) (And.intro (fun c2 => ?_) (fun c2 => ?_)))
    · have c2 : ¬ u.1 67 5 = 0 := c2
      refine s94 _ _ (stop hT (Or.inr (Or.inl (fun z => ?_))))
      rcases o3 with h | h | h
      · exact c2 h.2.2.1
      · rw [z.2] at h; exact absurd h.1 (by decide)
      · obtain ⟨-, m, t, k, h, -⟩ := h
        rw [z.1] at h; cases h
    have c2 : u.1 67 5 = 0 := Decidable.of_not_not (fun z => c2 z)
    have hon : o = none ∧ f.2.2.2 = 0 := by
      rcases o3 with h | h | h
      · exact ⟨h.2.1, h.1⟩
      · rw [h.2.2.1] at c2; exact absurd c2 (by decide)
      · obtain ⟨-, m, t, k, -, h1, h2, -⟩ := h
        rw [h2] at c2
        exact absurd ((nI_eq (b := 0) (by omega) (by decide)).mp c2) (by omega)
    refine kjZ_y rfl rfl 7 _ _ _ _ tu ?_
    refine (And.intro (tu.k (by decide) rfl) (And.intro (tu.k (by decide) rfl) (And.intro (fun c3 => ?_) (fun c3 => ?_))))
    · have c3 : u.1 53 4 ≤ x1 + Int32.ofInt 1 := c3
      rw [h4, e1] at c3
      have c3 : nI ws.length ≤ nI i + nI 1 := c3
      rw [nI_add, nle (by omega) (by omega)] at c3
      exact s94 _ _ (stop hT (Or.inr (Or.inr c3)))
    have c3 : ¬ u.1 53 4 ≤ x1 + Int32.ofInt 1 := c3
    rw [h4, e1] at c3
    have c3 : ¬ nI ws.length ≤ nI i + nI 1 := c3
    rw [nI_add, nle (by omega) (by omega)] at c3
    obtain ⟨t, ht1, ht2⟩ := two _ hT hm hon (by omega)
    refine kjZ_y rfl rfl 3 _ _ _ _ tu ?_
    refine (And.intro (tu.k (by decide) rfl) (And.intro (Or.inl rfl) (fun tu' => ?_)))
    have go : ∀ z, kTY z → z = (mjIu u.1 67 5 (nI (wyN v)), u.2) → kjY kPP (kQQ Y) (d + 8) 170 89 [some (.ref 67), some (.int x1), some (.int y2), some (.int (nI (wyN v)))] [] z (roP σ0 B σ ws nm ks R) := by
      intro z tz ez
      have wz : KWd σ0 B z ws nm ks := by rw [ez]; exact wu.pi tu (by decide)
      have sz : SCl scO u z := by rw [ez]; exact SCl.i (by decide +kernel)
      refine kjZ_y rfl rfl 4 _ _ _ _ tz ?_
      refine (And.intro (tz.k (by decide) rfl) (And.intro (Or.inl rfl) (fun tz' => ?_)))
      have go2 : ∀ y, kTY y → y = (mjIu z.1 67 6 (x1 + Int32.ofInt 1), z.2) → kjY kPP (kQQ Y) (d + 8) 170 93 [some (.ref 67), some (.int (x1 + Int32.ofInt 1)), some (.int y2), some (.int (nI (wyN v)))] [] y (roP σ0 B σ ws nm ks R) := by
        intro y ty ey
        have wy : KWd σ0 B y ws nm ks := by rw [ey]; exact wz.pi tz (by decide)
        have sy : SCl scO z y := by rw [ey]; exact SCl.i (by decide +kernel)
        have eI : ∀ x, y.1 67 x = if x = 6 then x1 + Int32.ofInt 1 else if x = 5 then nI (wyN v) else u.1 67 x := by
          intro x; rw [ey, ez]; show mjIu (mjIu u.1 67 5 (nI (wyN v))) 67 6 _ 67 x = _
          rw [mjIu_at, mjIu_at]; simp only [true_and]
        have ex1 : x1 + Int32.ofInt 1 = nI (i + 1) := by rw [e1]; exact nI_1 i
        refine kjZ_y rfl rfl 1 _ _ _ _ ty ?_
        refine nxt y (i + 1) _ _ _ f (some (wyN v - 2, t)) (by omega) (by omega) ex1 ty wy ((su.tr sz).tr sy) ⟨?_, ?_, Or.inr (Or.inr ⟨hon.2, wyN v - 2, t, i + 1, rfl, by omega, ?_, ?_, by omega, ht1⟩)⟩ ht2
        · rw [eI, if_neg (by decide), if_neg (by decide)]; exact o1
        · rw [eI, if_neg (by decide), if_neg (by decide)]; exact o2
        · rw [eI, if_neg (by decide), if_pos rfl]; congr 1; omega
        · rw [eI, if_pos rfl]; exact ex1
      exact go2 _ tz' rfl
    exact go _ tu' rfl
  have s63 : ∀ y2 : Int32, ¬ (v.map up = tb 170 ∧ f.1 = 0 ∧ f.2.1 = 0) → ¬ (v.map up = tb 171 ∧ f.1 = 0 ∧ f.2.1 = 0) → ¬ (v.map up = tb 172 ∧ f.2.2.1 = 0) → kjY kPP (kQQ Y) (d + 8) 170 63 [some (.ref 67), some (.int x1), some (.int y2), some (.int (nI (wyN v)))] [] u (roP σ0 B σ ws nm ks R) := by
    intro y2 n1 n2 n3
    rw [if_neg n1, if_neg n2, if_neg n3] at ow
    refine kjZ_y rfl rfl 3 _ _ _ _ tu ?_
    refine And.intro (fun c => ?_) (fun c => ?_)
    · have c : ¬ nI (wyN v) = nI 1 := c
      rw [nI_eq (by omega) (by decide)] at c
      exact s73 _ (by rw [ow, if_neg (fun z => c z.1)])
    have c : nI (wyN v) = nI 1 := Decidable.of_not_not (fun z => c z)
    rw [nI_eq (by omega) (by decide)] at c
    refine kjZ_y rfl rfl 3 _ _ _ _ tu ?_
    refine (And.intro (tu.k (by decide) rfl) (And.intro (fun c2 => ?_) (fun c2 => ?_)))
    · have c2 : ¬ u.1 67 5 = 0 := c2
      refine s73 _ ?_
      rw [ow, if_neg (fun z => ?_)]
      rcases o3 with h | h | h
      · exact c2 h.2.2.1
      · rw [z.2.1] at h; exact absurd h.1 (by decide)
      · obtain ⟨-, m, t, k, h, -⟩ := h
        rw [z.2.2] at h; cases h
    have c2 : u.1 67 5 = 0 := Decidable.of_not_not (fun z => c2 z)
    have hon : f.2.2.2 = 0 ∧ o = none ∧ u.1 67 6 = 0 := by
      rcases o3 with h | h | h
      · exact ⟨h.1, h.2.1, h.2.2.2⟩
      · rw [h.2.2.1] at c2; exact absurd c2 (by decide)
      · obtain ⟨-, m, t, k, -, h1, h2, -⟩ := h
        rw [h2] at c2
        exact absurd ((nI_eq (b := 0) (by omega) (by decide)).mp c2) (by omega)
    rw [if_pos ⟨c, hon.1, hon.2.1⟩] at ow
    refine kjZ_y rfl rfl 3 _ _ _ _ tu ?_
    refine (And.intro (tu.k (by decide) rfl) (And.intro (Or.inl rfl) (fun tu' => ?_)))
    have go : ∀ z, kTY z → z = (mjIu u.1 67 5 (Int32.ofInt 1), u.2) → kjY kPP (kQQ Y) (d + 8) 170 72 [some (.ref 67), some (.int x1), some (.int y2), some (.int (nI (wyN v)))] [] z (roP σ0 B σ ws nm ks R) := by
      intro z tz ez
      have wz : KWd σ0 B z ws nm ks := by rw [ez]; exact wu.pi tu (by decide)
      have sz : SCl scO u z := by rw [ez]; exact SCl.i (by decide +kernel)
      have eI : ∀ x, z.1 67 x = if x = 5 then Int32.ofInt 1 else u.1 67 x := by
        intro x; rw [ez]; show mjIu u.1 67 5 _ 67 x = _
        rw [mjIu_at]; simp only [true_and]
      refine kjZ_y rfl rfl 1 _ _ _ _ tz ?_
      refine nxt z i _ _ _ _ o (Nat.le_refl _) hil e1 tz wz (su.tr sz) ⟨?_, ?_, Or.inr (Or.inl ⟨rfl, hon.2.1, ?_, ?_⟩)⟩ (step _ ow)
      · rw [eI, if_neg (by decide)]; exact o1
      · rw [eI, if_neg (by decide)]; exact o2
      · rw [eI, if_pos rfl]; rfl
      · rw [eI, if_neg (by decide)]; exact hon.2.2
    exact go _ tu' rfl
  have s50 : ∀ y2 : Int32, ¬ (v.map up = tb 170 ∧ f.1 = 0 ∧ f.2.1 = 0) → ¬ (v.map up = tb 171 ∧ f.1 = 0 ∧ f.2.1 = 0) → kjY kPP (kQQ Y) (d + 8) 170 50 [some (.ref 67), some (.int x1), some (.int y2), some (.int (nI (wyN v)))] [] u (roP σ0 B σ ws nm ks R) := by
    intro y2 n1 n2
    refine kjZ_y rfl rfl 5 _ _ _ _ tu ?_
    refine (And.intro (tu.k (by decide) rfl) (And.intro rfl (And.intro (Nat.le_of_ble_eq_true rfl) (And.intro (Or.inl ⟨(Nat.le_of_ble_eq_true rfl), (tu.k (by decide) rfl)⟩) (And.intro (Nat.le_of_ble_eq_true rfl) (And.intro (Nat.le_of_ble_eq_true rfl) (kjY_mono tu (fun q_ u1 ty1 xu1 h_ => ?_) (kx_is tu wu (i := 172) (by decide) i (by omega) _ e1))))))))
    obtain ⟨rfl, q⟩ := h_
    intro _ _
    rcases q with ⟨rfl, v1, g1, g2⟩ | ⟨rfl, g1⟩
    rotate_left
    · have g1 := g1 v hv
      refine kjZ_y rfl rfl 1 _ _ _ _ ty1 ?_
      refine And.intro (fun c => ?_) (fun c => ?_)
      rotate_left
      · exact absurd rfl c
      exact s63 y2 n1 n2 (fun z => g1 z.1)
    rw [hv] at g1; cases g1
    refine kjZ_y rfl rfl 1 _ _ _ _ ty1 ?_
    refine And.intro (fun c => ?_) (fun c => ?_)
    · exact absurd (show (1 : Int32) = 0 from c) (by decide)
    refine kjZ_y rfl rfl 3 _ _ _ _ ty1 ?_
    refine (And.intro (ty1.k (by decide) rfl) (And.intro (fun c2 => ?_) (fun c2 => ?_)))
    · have c2 : ¬ u1.1 67 4 = 0 := c2
      refine s63 y2 n1 n2 (fun z => ?_)
      rcases o2 with h | h
      · exact c2 h.2
      · rw [z.2] at h; exact absurd h.1 (by decide)
    have c2 : u1.1 67 4 = 0 := Decidable.of_not_not (fun z => c2 z)
    have hgt : f.2.2.1 = 0 := by
      rcases o2 with h | h
      · exact h.1
      · rw [h.2] at c2; exact absurd c2 (by decide)
    rw [if_neg n1, if_neg n2, if_pos ⟨g2, hgt⟩] at ow
    refine kjZ_y rfl rfl 3 _ _ _ _ ty1 ?_
    refine (And.intro (ty1.k (by decide) rfl) (And.intro (Or.inr ⟨rfl, Or.inr rfl⟩) (fun ty1' => ?_)))
    have go : ∀ z, kTY z → z = (mjIu u1.1 67 4 (Int32.ofInt 1), u1.2) → kjY kPP (kQQ Y) (d + 8) 170 62 [some (.ref 67), some (.int x1), some (.int y2), some (.int (nI (wyN v)))] [] z (roP σ0 B σ ws nm ks R) := by
      intro z tz ez
      have wz : KWd σ0 B z ws nm ks := by rw [ez]; exact wu.pi ty1 (by decide)
      have sz : SCl scO u1 z := by rw [ez]; exact SCl.i (by decide +kernel)
      have eI : ∀ x, z.1 67 x = if x = 4 then Int32.ofInt 1 else u1.1 67 x := by
        intro x; rw [ez]; show mjIu u1.1 67 4 _ 67 x = _
        rw [mjIu_at]; simp only [true_and]
      refine kjZ_y rfl rfl 1 _ _ _ _ tz ?_
      refine nxt z i _ _ _ _ o (Nat.le_refl _) hil e1 tz wz (su.tr sz) ⟨?_, Or.inr ⟨rfl, ?_⟩, ?_⟩ (step _ ow)
      · rw [eI, if_neg (by decide)]; exact o1
      · rw [eI, if_pos rfl]; rfl
      · rw [eI, eI, if_neg (by decide), if_neg (by decide)]; exact o3
    exact go _ ty1' rfl
  have s41 : ∀ T : Nat, (T = 1 ∧ v.map up = tb 170) ∨ (T = 2 ∧ v.map up = tb 171) ∨ (T = 0 ∧ (¬ v.map up = tb 170) ∧ ¬ v.map up = tb 171) → kjY kPP (kQQ Y) (d + 8) 170 41 [some (.ref 67), some (.int x1), some (.int (nI T)), some (.int (nI (wyN v)))] [] u (roP σ0 B σ ws nm ks R) := by
    intro T hT
    refine kjZ_y rfl rfl 2 _ _ _ _ tu ?_
    refine And.intro (fun c => ?_) (fun c => ?_)
    · have c : nI T = nI 0 := c
      rw [nI_eq (by omega) (by decide)] at c
      have hT : (¬ v.map up = tb 170) ∧ ¬ v.map up = tb 171 := by
        rcases hT with h | h | h
        · omega
        · omega
        · exact h.2
      exact s50 _ (fun z => hT.1 z.1) (fun z => hT.2 z.1)
    have c : ¬ nI T = nI 0 := c
    rw [nI_eq (by omega) (by decide)] at c
    refine kjZ_y rfl rfl 3 _ _ _ _ tu ?_
    refine (And.intro (tu.k (by decide) rfl) (And.intro (fun c2 => ?_) (fun c2 => ?_)))
    · have c2 : ¬ u.1 67 3 = 0 := c2
      have hno : ¬ (f.1 = 0 ∧ f.2.1 = 0) := fun z => by
        rcases o1 with h | h | h
        · exact c2 h.2.2
        · rw [z.1] at h; exact absurd h.1 (by decide)
        · rw [z.2] at h; exact absurd h.2.1 (by decide)
      exact s50 _ (fun z => hno z.2) (fun z => hno z.2)
    have c2 : u.1 67 3 = 0 := Decidable.of_not_not (fun z => c2 z)
    have hyes : f.1 = 0 ∧ f.2.1 = 0 := by
      rcases o1 with h | h | h
      · exact ⟨h.1, h.2.1⟩
      · rw [h.2.2] at c2; exact absurd c2 (by decide)
      · rw [h.2.2] at c2; exact absurd c2 (by decide)
    refine kjZ_y rfl rfl 3 _ _ _ _ tu ?_
    refine (And.intro (tu.k (by decide) rfl) (And.intro (Or.inl rfl) (fun tu' => ?_)))
    have go : ∀ z, kTY z → z = (mjIu u.1 67 3 (nI T), u.2) → kjY kPP (kQQ Y) (d + 8) 170 49 [some (.ref 67), some (.int x1), some (.int (nI T)), some (.int (nI (wyN v)))] [] z (roP σ0 B σ ws nm ks R) := by
      intro z tz ez
      have wz : KWd σ0 B z ws nm ks := by rw [ez]; exact wu.pi tu (by decide)
      have sz : SCl scO u z := by rw [ez]; exact SCl.i (by decide +kernel)
      have eI : ∀ x, z.1 67 x = if x = 3 then nI T else u.1 67 x := by
        intro x; rw [ez]; show mjIu u.1 67 3 _ 67 x = _
        rw [mjIu_at]; simp only [true_and]
      have r2 : (f.2.2.1 = 0 ∧ z.1 67 4 = 0) ∨ (f.2.2.1 = 1 ∧ z.1 67 4 = 1) := by rw [eI, if_neg (by decide)]; exact o2
      have r3 : (f.2.2.2 = 0 ∧ o = none ∧ z.1 67 5 = 0 ∧ z.1 67 6 = 0) ∨ (f.2.2.2 = 1 ∧ o = none ∧ z.1 67 5 = 1 ∧ z.1 67 6 = 0) ∨ (f.2.2.2 = 0 ∧ ∃ m t i, o = some (m, t) ∧ m < 4 ∧ z.1 67 5 = nI (m + 2) ∧ z.1 67 6 = nI i ∧ 1 ≤ i ∧ ws[i]? = some t) := by
        rw [eI, eI, if_neg (by decide), if_neg (by decide)]; exact o3
      refine kjZ_y rfl rfl 1 _ _ _ _ tz ?_
      rcases hT with ⟨hT, hu⟩ | ⟨hT, hu⟩ | h
      · rw [if_pos ⟨hu, hyes⟩] at ow
        refine nxt z i _ _ _ (1, f.2.1, f.2.2.1, f.2.2.2) o (Nat.le_refl _) hil e1 tz wz (su.tr sz) ⟨Or.inr (Or.inl ⟨rfl, hyes.2, ?_⟩), r2, r3⟩ (step _ ow)
        rw [eI, if_pos rfl, hT]; rfl
      · rw [if_neg (fun y => absurd (y.1.symm.trans hu) (by decide)), if_pos ⟨hu, hyes⟩] at ow
        refine nxt z i _ _ _ (f.1, 1, f.2.2.1, f.2.2.2) o (Nat.le_refl _) hil e1 tz wz (su.tr sz) ⟨Or.inr (Or.inr ⟨hyes.1, rfl, ?_⟩), r2, r3⟩ (step _ ow)
        rw [eI, if_pos rfl, hT]; rfl
      · exact absurd h.1 c
    exact go _ tu' rfl
  have s36 : ∀ T : Nat, (T = 1 ∧ v.map up = tb 170) ∨ (T = 2 ∧ v.map up = tb 171) ∨ (T = 0 ∧ (¬ v.map up = tb 170) ∧ ¬ v.map up = tb 171) → kjY kPP (kQQ Y) (d + 8) 170 36 [some (.ref 67), some (.int x1), l2, l3] [.int (nI T)] u (roP σ0 B σ ws nm ks R) := by
    intro T hT
    refine kjZ_y rfl rfl 4 _ _ _ _ tu ?_
    refine (And.intro (Nat.le_of_ble_eq_true rfl) (And.intro (Nat.le_of_ble_eq_true rfl) (And.intro (Or.inl ⟨(Nat.le_of_ble_eq_true rfl), (tu.k (by decide) rfl)⟩) (And.intro (Nat.le_of_ble_eq_true rfl) (And.intro (Nat.le_of_ble_eq_true rfl) (kjY_mono tu (fun q_ u2 ty2 xu2 h_ => ?_) (kx_timing tu wu hv (by omega) _ e1)))))))
    obtain ⟨rfl, rfl⟩ := h_
    intro _ _
    refine kjZ_y rfl rfl 1 _ _ _ _ ty2 ?_
    refine (And.intro (Nat.le_of_ble_eq_true rfl) ?_)
    exact s41 T hT
  refine kjZ_y rfl rfl 5 _ _ _ _ tu ?_
  refine (And.intro (tu.k (by decide) rfl) (And.intro rfl (And.intro (Nat.le_of_ble_eq_true rfl) (And.intro (Or.inl ⟨(Nat.le_of_ble_eq_true rfl), (tu.k (by decide) rfl)⟩) (And.intro (Nat.le_of_ble_eq_true rfl) (And.intro (Nat.le_of_ble_eq_true rfl) (kjY_mono tu (fun q_ u1 ty1 xu1 h_ => ?_) (kx_is tu wu (i := 170) (by decide) i (by omega) _ e1))))))))
  obtain ⟨rfl, q⟩ := h_
  intro _ _
  rcases q with ⟨rfl, v1, g1, g2⟩ | ⟨rfl, g1⟩
  · rw [hv] at g1; cases g1
    refine kjZ_y rfl rfl 1 _ _ _ _ ty1 ?_
    refine And.intro (fun c => ?_) (fun c => ?_)
    · exact absurd (show (1 : Int32) = 0 from c) (by decide)
    refine kjZ_y rfl rfl 2 _ _ _ _ ty1 ?_
    exact s36 1 (Or.inl ⟨rfl, g2⟩)
  have g1 := g1 v hv
  refine kjZ_y rfl rfl 1 _ _ _ _ ty1 ?_
  refine And.intro (fun c => ?_) (fun c => ?_)
  rotate_left
  · exact absurd rfl c
  refine kjZ_y rfl rfl 5 _ _ _ _ ty1 ?_
  refine (And.intro (ty1.k (by decide) rfl) (And.intro rfl (And.intro (Nat.le_of_ble_eq_true rfl) (And.intro (Or.inl ⟨(Nat.le_of_ble_eq_true rfl), (ty1.k (by decide) rfl)⟩) (And.intro (Nat.le_of_ble_eq_true rfl) (And.intro (Nat.le_of_ble_eq_true rfl) (kjY_mono ty1 (fun q_ u2 ty2 xu2 h_ => ?_) (kx_is ty1 wu (i := 171) (by decide) i (by omega) _ e1))))))))
  obtain ⟨rfl, q⟩ := h_
  intro _ _
  rcases q with ⟨rfl, v1, g3, g2⟩ | ⟨rfl, g3⟩
  · rw [hv] at g3; cases g3
    refine kjZ_y rfl rfl 1 _ _ _ _ ty2 ?_
    refine And.intro (fun c => ?_) (fun c => ?_)
    · exact absurd (show (1 : Int32) = 0 from c) (by decide)
    refine kjZ_y rfl rfl 2 _ _ _ _ ty2 ?_
    exact s36 2 (Or.inr (Or.inl ⟨rfl, g2⟩))
  have g3 := g3 v hv
  refine kjZ_y rfl rfl 1 _ _ _ _ ty2 ?_
  refine And.intro (fun c => ?_) (fun c => ?_)
  rotate_left
  · exact absurd rfl c
  refine kjZ_y rfl rfl 1 _ _ _ _ ty2 ?_
  exact s36 0 (Or.inr (Or.inr ⟨rfl, g1, g3⟩))
theorem kx_readOpt (ty : kTY σ) (w : KWd σ0 B σ ws nm ks) (h3 : 3 ≤ ws.length) : kjY kPP (kQQ Y) (d + 8) 170 0 (mjL0 4 [.ref 67]) [] σ (roP σ0 B σ ws nm ks (osF (ws.drop 3) (0, 0, 0, 0) none)) := by
  refine kjZ_y rfl rfl 12 _ _ _ _ ty ?_
  refine (And.intro (ty.k (by decide) rfl) (And.intro (Or.inl rfl) (fun ty' => (And.intro (ty'.k (by decide) rfl) (And.intro (Or.inr ⟨rfl, Or.inl rfl⟩) (fun ty'' => (And.intro (ty''.k (by decide) rfl) (And.intro (Or.inl rfl) (fun ty''' => (And.intro (ty'''.k (by decide) rfl) (And.intro (Or.inl rfl) (fun ty'''' => ?_))))))))))))
  have wz0 := (((w.pi ty (h := 67) (x := 3) (v := Int32.ofInt 0) (by decide)).pi ty' (h := 67) (x := 4) (v := Int32.ofInt 0) (by decide)).pi ty'' (h := 67) (x := 5) (v := Int32.ofInt 0) (by decide)).pi ty''' (h := 67) (x := 6) (v := Int32.ofInt 0) (by decide)
  have go : ∀ z, kTY z → z = (mjIu (mjIu (mjIu (mjIu σ.1 67 3 (Int32.ofInt 0)) 67 4 (Int32.ofInt 0)) 67 5 (Int32.ofInt 0)) 67 6 (Int32.ofInt 0), σ.2) → kjY kPP (kQQ Y) (d + 8) 170 12 [some (.ref 67), none, none, none] [] z (roP σ0 B σ ws nm ks (osF (ws.drop 3) (0, 0, 0, 0) none)) := by
    intro z tz ez
    have wz : KWd σ0 B z ws nm ks := by rw [ez]; exact wz0
    have sz : SCl scO σ z := by
      rw [ez]
      exact (((SCl.i (h := 67) (x := 3) (v := Int32.ofInt 0) (by decide +kernel)).tr (SCl.i (h := 67) (x := 4) (v := Int32.ofInt 0) (by decide +kernel))).tr (SCl.i (h := 67) (x := 5) (v := Int32.ofInt 0) (by decide +kernel))).tr (SCl.i (h := 67) (x := 6) (v := Int32.ofInt 0) (by decide +kernel))
    have eI : ∀ x, z.1 67 x = if x = 6 then Int32.ofInt 0 else if x = 5 then Int32.ofInt 0 else if x = 4 then Int32.ofInt 0 else if x = 3 then Int32.ofInt 0 else σ.1 67 x := by
      intro x; rw [ez]; show mjIu (mjIu (mjIu (mjIu σ.1 67 3 _) 67 4 _) 67 5 _) 67 6 _ 67 x = _
      rw [mjIu_at, mjIu_at, mjIu_at, mjIu_at]; simp only [true_and]
    refine kjZ_y rfl rfl 2 _ _ _ _ tz ?_
    refine (And.intro (Nat.le_of_ble_eq_true rfl) ?_)
    exact k_ropt_l (ws.length - 3) 3 _ _ _ (0, 0, 0, 0) none z (by omega) (Nat.le_refl _) rfl tz wz sz ⟨Or.inl ⟨rfl, rfl, eI 3⟩, Or.inl ⟨rfl, eI 4⟩, Or.inl ⟨rfl, rfl, eI 5, eI 6⟩⟩ rfl
  exact go _ ty'''' rfl
end KOPT2
