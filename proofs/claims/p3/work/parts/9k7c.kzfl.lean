/-! Orders: ZADD's words ahead of the pairs. -/
def zf6 (a b c d e g : Bool) : F6 := (bI a, bI b, bI c, bI d, bI e, bI g)
def enF (a b c d e g : Bool) : Int32 := (if a = true then 1 else 0) ||| (if b = true then 2 else 0) ||| (if c = true then 4 else 0) ||| (if d = true then 8 else 0) ||| (if e = true then 16 else 0) ||| (if g = true then 32 else 0)
theorem enF_1 : ∀ a b c d e g : Bool, enF a b c d e g &&& 1 = 0 ↔ a = false := by decide +kernel
theorem enF_2 : ∀ a b c d e g : Bool, enF a b c d e g &&& 2 = 0 ↔ b = false := by decide +kernel
theorem enF_4 : ∀ a b c d e g : Bool, enF a b c d e g &&& 4 = 0 ↔ c = false := by decide +kernel
theorem enF_8 : ∀ a b c d e g : Bool, enF a b c d e g &&& 8 = 0 ↔ d = false := by decide +kernel
theorem enF_16 : ∀ a b c d e g : Bool, enF a b c d e g &&& 16 = 0 ↔ e = false := by decide +kernel
theorem enF_32 : ∀ a b c d e g : Bool, enF a b c d e g &&& 32 = 0 ↔ g = false := by decide +kernel
theorem enF_14 : ∀ a b c d e g : Bool, enF a b c d e g &&& 14 = 0 ↔ (b = false ∧ c = false ∧ d = false) := by decide +kernel
theorem enF_o1 : ∀ b c d e g : Bool, enF false b c d e g ||| 1 = enF true b c d e g := by decide +kernel
theorem enF_o2 : ∀ a c d e g : Bool, enF a false c d e g ||| 2 = enF a true c d e g := by decide +kernel
theorem enF_o4 : ∀ a b d e g : Bool, enF a b false d e g ||| 4 = enF a b true d e g := by decide +kernel
theorem enF_o8 : ∀ a b c e g : Bool, enF a b c false e g ||| 8 = enF a b c true e g := by decide +kernel
theorem enF_o16 : ∀ a b c d g : Bool, enF a b c d false g ||| 16 = enF a b c d true g := by decide +kernel
theorem enF_o32 : ∀ a b c d e : Bool, enF a b c d e false ||| 32 = enF a b c d e true := by decide +kernel
theorem zoT_w (v : List Int32) (f : F6) : zoT v f = if isJ 154 v then some (if f.1 = 0 then some (1, f.2.1, f.2.2.1, f.2.2.2.1, f.2.2.2.2.1, f.2.2.2.2.2) else none) else if isJ 155 v then some (if f.2.1 = 0 then some (f.1, 1, f.2.2.1, f.2.2.2.1, f.2.2.2.2.1, f.2.2.2.2.2) else none) else if isJ 156 v then some (if f.2.2.1 = 0 then some (f.1, f.2.1, 1, f.2.2.2.1, f.2.2.2.2.1, f.2.2.2.2.2) else none) else if isJ 157 v then some (if f.2.2.2.1 = 0 then some (f.1, f.2.1, f.2.2.1, 1, f.2.2.2.2.1, f.2.2.2.2.2) else none) else if isJ 158 v then some (if f.2.2.2.2.1 = 0 then some (f.1, f.2.1, f.2.2.1, f.2.2.2.1, 1, f.2.2.2.2.2) else none) else if isJ 159 v then some (if f.2.2.2.2.2 = 0 then some (f.1, f.2.1, f.2.2.1, f.2.2.2.1, f.2.2.2.2.1, 1) else none) else none := by
  have i1 : isF v 20056 = 1 ↔ v.map up = tb 154 := isT (by decide)
  have i2 : isF v 22616 = 1 ↔ v.map up = tb 155 := isT (by decide)
  have i3 : isF v 18260 = 1 ↔ v.map up = tb 156 := isT (by decide)
  have i4 : isF v 19540 = 1 ↔ v.map up = tb 157 := isT (by decide)
  have i5 : isF v 17224 = 1 ↔ v.map up = tb 158 := isT (by decide)
  have i6 : isF v 1229865810 = 1 ↔ v.map up = tb 159 := isT (by decide)
  unfold zoT
  simp only [i1, i2, i3, i4, i5, i6, isJ]
def zfS (v : List Int32) (a b c d e g : Bool) : Prop := (flgC v = 0 ∧ zoT v (zf6 a b c d e g) = none) ∨ (¬ flgC v = 0 ∧ ((¬ enF a b c d e g &&& flgC v = 0 ∧ zoT v (zf6 a b c d e g) = some none) ∨ (enF a b c d e g &&& flgC v = 0 ∧ ∃ a' b' c' d' e' g', enF a b c d e g ||| flgC v = enF a' b' c' d' e' g' ∧ zoT v (zf6 a b c d e g) = some (some (zf6 a' b' c' d' e' g')))))
theorem zf_step (v : List Int32) (a b c d e g : Bool) : zfS v a b c d e g := by
  unfold zfS
  rw [zoT_w]
  unfold flgC
  by_cases h1 : isJ 154 v
  · rw [if_pos h1, if_pos h1]
    cases a
    · exact Or.inr ⟨by decide, Or.inr ⟨(enF_1 _ _ _ _ _ _).mpr rfl, true, b, c, d, e, g, enF_o1 _ _ _ _ _, rfl⟩⟩
    · exact Or.inr ⟨by decide, Or.inl ⟨fun z => absurd ((enF_1 _ _ _ _ _ _).mp z) (by decide), rfl⟩⟩
  rw [if_neg h1, if_neg h1]
  by_cases h2 : isJ 155 v
  · rw [if_pos h2, if_pos h2]
    cases b
    · exact Or.inr ⟨by decide, Or.inr ⟨(enF_2 _ _ _ _ _ _).mpr rfl, a, true, c, d, e, g, enF_o2 _ _ _ _ _, rfl⟩⟩
    · exact Or.inr ⟨by decide, Or.inl ⟨fun z => absurd ((enF_2 _ _ _ _ _ _).mp z) (by decide), rfl⟩⟩
  rw [if_neg h2, if_neg h2]
  by_cases h3 : isJ 156 v
  · rw [if_pos h3, if_pos h3]
    cases c
    · exact Or.inr ⟨by decide, Or.inr ⟨(enF_4 _ _ _ _ _ _).mpr rfl, a, b, true, d, e, g, enF_o4 _ _ _ _ _, rfl⟩⟩
    · exact Or.inr ⟨by decide, Or.inl ⟨fun z => absurd ((enF_4 _ _ _ _ _ _).mp z) (by decide), rfl⟩⟩
  rw [if_neg h3, if_neg h3]
  by_cases h4 : isJ 157 v
  · rw [if_pos h4, if_pos h4]
    cases d
    · exact Or.inr ⟨by decide, Or.inr ⟨(enF_8 _ _ _ _ _ _).mpr rfl, a, b, c, true, e, g, enF_o8 _ _ _ _ _, rfl⟩⟩
    · exact Or.inr ⟨by decide, Or.inl ⟨fun z => absurd ((enF_8 _ _ _ _ _ _).mp z) (by decide), rfl⟩⟩
  rw [if_neg h4, if_neg h4]
  by_cases h5 : isJ 158 v
  · rw [if_pos h5, if_pos h5]
    cases e
    · exact Or.inr ⟨by decide, Or.inr ⟨(enF_16 _ _ _ _ _ _).mpr rfl, a, b, c, d, true, g, enF_o16 _ _ _ _ _, rfl⟩⟩
    · exact Or.inr ⟨by decide, Or.inl ⟨fun z => absurd ((enF_16 _ _ _ _ _ _).mp z) (by decide), rfl⟩⟩
  rw [if_neg h5, if_neg h5]
  by_cases h6 : isJ 159 v
  · rw [if_pos h6, if_pos h6]
    cases g
    · exact Or.inr ⟨by decide, Or.inr ⟨(enF_32 _ _ _ _ _ _).mpr rfl, a, b, c, d, e, true, enF_o32 _ _ _ _ _, rfl⟩⟩
    · exact Or.inr ⟨by decide, Or.inl ⟨fun z => absurd ((enF_32 _ _ _ _ _ _).mp z) (by decide), rfl⟩⟩
  rw [if_neg h6, if_neg h6]
  exact Or.inl ⟨rfl, rfl⟩
section KZFL
variable {Y : Nat → MethodName × ByteArray} {d : Nat} {σ0 σ u : kS} {B ws nm nm' : List (List Int32)} {ks : List KC}
theorem kx_flagOfN (ty : kTY σ) (w : KWd σ0 B σ ws nm ks) {i : Nat} (hi : i < 2 ^ 30) (hv : ws[i]? = none) (x1 : Int32) (e1 : x1 = nI i) : kjY kPP (kQQ Y) (d + 7) 235 0 (mjL0 2 [.ref 75, .int x1]) [] σ (fun r u => u = σ ∧ r = some (.int 0)) := by
  have isX : ∀ (n k : Nat) {r : Option Value}, ws[k]? = none → ((r = some (.int 1) ∧ ∃ v, ws[k]? = some v ∧ v.map up = tb n) ∨ (r = some (.int 0) ∧ ∀ v, ws[k]? = some v → ¬ v.map up = tb n)) → r = some (.int 0) := by
    intro n k r hv q
    rcases q with ⟨q1, v', q2, q3⟩ | ⟨q1, q2⟩
    · rw [hv] at q2; cases q2
    · exact q1
  refine kjZ_y rfl rfl 5 _ _ _ _ ty ?_
  refine (And.intro (ty.k (by decide) rfl) (And.intro rfl (And.intro (Nat.le_of_ble_eq_true rfl) (And.intro (Or.inl ⟨(Nat.le_of_ble_eq_true rfl), (ty.k (by decide) rfl)⟩) (And.intro (Nat.le_of_ble_eq_true rfl) (And.intro (Nat.le_of_ble_eq_true rfl) (kjY_mono ty (fun q_ u1 ty1 xu1 h_ => ?_) (kx_is ty w (i := 154) (by decide) i hi _ e1))))))))
  obtain ⟨rfl, q1⟩ := h_
  intro _ _
  obtain rfl := isX 154 i hv q1
  refine kjZ_y rfl rfl 1 _ _ _ _ ty1 ?_
  refine And.intro (fun c => ?_) (fun c => ?_)
  rotate_left
  · exact absurd rfl c
  refine kjZ_y rfl rfl 5 _ _ _ _ ty1 ?_
  refine (And.intro (ty1.k (by decide) rfl) (And.intro rfl (And.intro (Nat.le_of_ble_eq_true rfl) (And.intro (Or.inl ⟨(Nat.le_of_ble_eq_true rfl), (ty1.k (by decide) rfl)⟩) (And.intro (Nat.le_of_ble_eq_true rfl) (And.intro (Nat.le_of_ble_eq_true rfl) (kjY_mono ty1 (fun q_ u2 ty2 xu2 h_ => ?_) (kx_is ty1 w (i := 155) (by decide) i hi _ e1))))))))
  obtain ⟨rfl, q2⟩ := h_
  intro _ _
  obtain rfl := isX 155 i hv q2
  refine kjZ_y rfl rfl 1 _ _ _ _ ty2 ?_
  refine And.intro (fun c => ?_) (fun c => ?_)
  rotate_left
  · exact absurd rfl c
  refine kjZ_y rfl rfl 5 _ _ _ _ ty2 ?_
  refine (And.intro (ty2.k (by decide) rfl) (And.intro rfl (And.intro (Nat.le_of_ble_eq_true rfl) (And.intro (Or.inl ⟨(Nat.le_of_ble_eq_true rfl), (ty2.k (by decide) rfl)⟩) (And.intro (Nat.le_of_ble_eq_true rfl) (And.intro (Nat.le_of_ble_eq_true rfl) (kjY_mono ty2 (fun q_ u3 ty3 xu3 h_ => ?_) (kx_is ty2 w (i := 156) (by decide) i hi _ e1))))))))
  obtain ⟨rfl, q3⟩ := h_
  intro _ _
  obtain rfl := isX 156 i hv q3
  refine kjZ_y rfl rfl 1 _ _ _ _ ty3 ?_
  refine And.intro (fun c => ?_) (fun c => ?_)
  rotate_left
  · exact absurd rfl c
  refine kjZ_y rfl rfl 5 _ _ _ _ ty3 ?_
  refine (And.intro (ty3.k (by decide) rfl) (And.intro rfl (And.intro (Nat.le_of_ble_eq_true rfl) (And.intro (Or.inl ⟨(Nat.le_of_ble_eq_true rfl), (ty3.k (by decide) rfl)⟩) (And.intro (Nat.le_of_ble_eq_true rfl) (And.intro (Nat.le_of_ble_eq_true rfl) (kjY_mono ty3 (fun q_ u4 ty4 xu4 h_ => ?_) (kx_is ty3 w (i := 157) (by decide) i hi _ e1))))))))
  obtain ⟨rfl, q4⟩ := h_
  intro _ _
  obtain rfl := isX 157 i hv q4
  refine kjZ_y rfl rfl 1 _ _ _ _ ty4 ?_
  refine And.intro (fun c => ?_) (fun c => ?_)
  rotate_left
  · exact absurd rfl c
  refine kjZ_y rfl rfl 5 _ _ _ _ ty4 ?_
  refine (And.intro (ty4.k (by decide) rfl) (And.intro rfl (And.intro (Nat.le_of_ble_eq_true rfl) (And.intro (Or.inl ⟨(Nat.le_of_ble_eq_true rfl), (ty4.k (by decide) rfl)⟩) (And.intro (Nat.le_of_ble_eq_true rfl) (And.intro (Nat.le_of_ble_eq_true rfl) (kjY_mono ty4 (fun q_ u5 ty5 xu5 h_ => ?_) (kx_is ty4 w (i := 158) (by decide) i hi _ e1))))))))
  obtain ⟨rfl, q5⟩ := h_
  intro _ _
  obtain rfl := isX 158 i hv q5
  refine kjZ_y rfl rfl 1 _ _ _ _ ty5 ?_
  refine And.intro (fun c => ?_) (fun c => ?_)
  rotate_left
  · exact absurd rfl c
  refine kjZ_y rfl rfl 5 _ _ _ _ ty5 ?_
  refine (And.intro (ty5.k (by decide) rfl) (And.intro rfl (And.intro (Nat.le_of_ble_eq_true rfl) (And.intro (Or.inl ⟨(Nat.le_of_ble_eq_true rfl), (ty5.k (by decide) rfl)⟩) (And.intro (Nat.le_of_ble_eq_true rfl) (And.intro (Nat.le_of_ble_eq_true rfl) (kjY_mono ty5 (fun q_ u6 ty6 xu6 h_ => ?_) (kx_is ty5 w (i := 159) (by decide) i hi _ e1))))))))
  obtain ⟨rfl, q6⟩ := h_
  intro _ _
  obtain rfl := isX 159 i hv q6
  refine kjZ_y rfl rfl 1 _ _ _ _ ty6 ?_
  refine And.intro (fun c => ?_) (fun c => ?_)
  rotate_left
  · exact absurd rfl c
  refine kjZ_y rfl rfl 2 _ _ _ _ ty6 ?_
  refine And.intro rfl (And.intro (Or.inl rfl) ?_)
  exact ⟨rfl, rfl⟩
def flO : Option (List Int32) → Int32
  | none => 0
  | some v => flgC v
theorem kx_flagOfO (ty : kTY σ) (w : KWd σ0 B σ ws nm ks) {i : Nat} (hi : i < 2 ^ 30) (x1 : Int32) (e1 : x1 = nI i) : kjY kPP (kQQ Y) (d + 7) 235 0 (mjL0 2 [.ref 75, .int x1]) [] σ (fun r u => u = σ ∧ r = some (.int (flO ws[i]?))) := by
  cases hv : ws[i]? with
  | none => exact kx_flagOfN ty w hi hv x1 e1
  | some v => exact kx_flagOf ty w hi hv x1 e1
def zrP (σ0 : kS) (B : List (List Int32)) (σ : kS) (ws nm : List (List Int32)) (ks : List KC) (R : Option (F6 × List (List Int32))) : kK := fun r u => KWd σ0 B u ws nm ks ∧ SCl scO σ u ∧ ((r = some (.int 0) ∧ (R = none ∨ ∃ q, R = some q ∧ zoC q.1 q.2)) ∨ ∃ a b c d e g j, r = some (.int 1) ∧ R = some (zf6 a b c d e g, ws.drop j) ∧ (¬ zoC (zf6 a b c d e g) (ws.drop j)) ∧ 2 ≤ j ∧ j ≤ ws.length ∧ u.1 75 3 = enF a b c d e g ∧ u.1 75 4 = nI j)
theorem k_rdf_l {R : Option (F6 × List (List Int32))}
    (hK : ∀ (j : Nat) (a b c d1 e g : Bool) (x1 : Int32) (u : kS), 2 ≤ j → j ≤ ws.length → kTY u → KWd σ0 B u ws nm ks → SCl scO σ u → u.1 75 3 = enF a b c d1 e g → u.1 75 4 = nI j → R = some (zf6 a b c d1 e g, ws.drop j) → kjY kPP (kQQ Y) (d + 8) 236 43 [some (.ref 75), some (.int x1), none, none] [] u (zrP σ0 B σ ws nm ks R)) :
    ∀ (f j : Nat) (a b c d1 e g : Bool) (x1 : Int32) (u : kS), j + f = ws.length → 2 ≤ j → x1 = flO ws[j]? → kTY u → KWd σ0 B u ws nm ks → SCl scO σ u → u.1 75 3 = enF a b c d1 e g → u.1 75 4 = nI j → zoF (ws.drop j) (zf6 a b c d1 e g) = R →
    kjY kPP (kQQ Y) (d + 8) 236 11 [some (.ref 75), some (.int x1), none, none] [] u (zrP σ0 B σ ws nm ks R) := by
  intro f
  induction f with
  | zero =>
    intro j a b c d1 e g x1 u hj h2 e1 tu wu su h3 h4 hR
    have hn : ws[j]? = none := List.getElem?_eq_none (by omega)
    rw [hn] at e1
    have e1 : x1 = 0 := e1
    refine kjZ_y rfl rfl 2 _ _ _ _ tu ?_
    refine And.intro (fun c1 => ?_) (fun c1 => ?_)
    rotate_left
    · exact absurd e1 c1
    refine hK j a b c d1 e g x1 u h2 (by omega) tu wu su h3 h4 ?_
    rw [← hR, List.drop_eq_nil_of_le (by omega)]; rfl
  | succ f ih =>
    intro j a b c d1 e g x1 u hj h2 e1 tu wu su h3 h4 hR
    obtain ⟨-, -, -, -, ⟨hc, h1024⟩, -⟩ := wu.2.2.2.1
    have hjl : j < ws.length := by omega
    have hv : ws[j]? = some ws[j] := List.getElem?_eq_getElem hjl
    have hdr : ws.drop j = ws[j] :: ws.drop (j + 1) := List.drop_eq_getElem_cons hjl
    generalize ws[j] = v at hv hdr
    rw [hv] at e1
    have e1 : x1 = flgC v := e1
    rcases zf_step v a b c d1 e g with ⟨g1, g2⟩ | ⟨g1, g2⟩
    · refine kjZ_y rfl rfl 2 _ _ _ _ tu ?_
      refine And.intro (fun c1 => ?_) (fun c1 => ?_)
      rotate_left
      · exact absurd (e1.trans g1) c1
      refine hK j a b c d1 e g x1 u h2 (by omega) tu wu su h3 h4 ?_
      rw [← hR, hdr, zoF_1 g2]
    refine kjZ_y rfl rfl 2 _ _ _ _ tu ?_
    refine And.intro (fun c1 => ?_) (fun c1 => ?_)
    · exact absurd (e1.symm.trans c1) g1
    refine kjZ_y rfl rfl 6 _ _ _ _ tu ?_
    refine (And.intro (tu.k (by decide) rfl) (And.intro (tu.k (by decide) rfl) (And.intro (tu.k (by decide) rfl) (And.intro (fun c2 => ?_) (fun c2 => ?_)))))
    · refine absurd (show u.1 53 4 ≤ u.1 75 4 from c2) ?_
      rw [hc, h4, nle (by omega) (by omega)]; omega
    refine kjZ_y rfl rfl 3 _ _ _ _ tu ?_
    refine (And.intro (Nat.le_of_ble_eq_true rfl) (And.intro (Or.inl ⟨(Nat.le_of_ble_eq_true rfl), (tu.k (by decide) rfl)⟩) (And.intro (Nat.le_of_ble_eq_true rfl) (And.intro (Nat.le_of_ble_eq_true rfl) (kjY_mono tu (fun q_ u1 ty1 xu1 h_ => ?_) (kx_told tu x1))))))
    obtain ⟨rfl, q⟩ := h_
    intro _ _
    rcases g2 with ⟨g3, g4⟩ | ⟨g3, a', b', c', d', e', g', g5, g6⟩
    · rcases q with ⟨rfl, q⟩ | ⟨rfl, q⟩
      rotate_left
      · rw [h3, e1] at q; exact absurd q g3
      refine kjZ_y rfl rfl 1 _ _ _ _ ty1 ?_
      refine And.intro (fun c3 => ?_) (fun c3 => ?_)
      · exact absurd (show (1 : Int32) = 0 from c3) (by decide)
      refine kjZ_y rfl rfl 2 _ _ _ _ ty1 ?_
      refine And.intro rfl (And.intro (Or.inr (Or.inl ⟨rfl, Or.inl rfl⟩)) ?_)
      refine ⟨wu, su, Or.inl ⟨rfl, Or.inl ?_⟩⟩
      rw [← hR, hdr, zoF_2 g4]
    · rcases q with ⟨rfl, q⟩ | ⟨rfl, q⟩
      · rw [h3, e1] at q; exact absurd g3 q
      refine kjZ_y rfl rfl 1 _ _ _ _ ty1 ?_
      refine And.intro (fun c3 => ?_) (fun c3 => ?_)
      rotate_left
      · exact absurd rfl c3
      refine kjZ_y rfl rfl 6 _ _ _ _ ty1 ?_
      refine (And.intro (ty1.k (by decide) rfl) (And.intro (ty1.k (by decide) rfl) (And.intro (Or.inl rfl) (fun ty1' => ?_))))
      have go : ∀ z, kTY z → z = (mjIu u1.1 75 3 (u1.1 75 3 ||| x1), u1.2) → kjY kPP (kQQ Y) (d + 8) 236 31 [some (.ref 75), some (.int x1), none, none] [] z (zrP σ0 B σ ws nm ks R) := by
        intro z tz ez
        have wz : KWd σ0 B z ws nm ks := by rw [ez]; exact wu.pi ty1 (by decide)
        have sz : SCl scO σ z := by rw [ez]; exact su.tr (SCl.i (by decide))
        have z3 : z.1 75 3 = enF a' b' c' d' e' g' := by
          rw [ez]; show u1.1 75 3 ||| x1 = _
          rw [h3, e1, g5]
        have z4 : z.1 75 4 = nI j := by rw [ez]; exact h4
        refine kjZ_y rfl rfl 6 _ _ _ _ tz ?_
        refine (And.intro (tz.k (by decide) rfl) (And.intro (tz.k (by decide) rfl) (And.intro (Or.inl rfl) (fun tz' => ?_))))
        have go2 : ∀ y, kTY y → y = (mjIu z.1 75 4 (z.1 75 4 + Int32.ofInt 1), z.2) → kjY kPP (kQQ Y) (d + 8) 236 37 [some (.ref 75), some (.int x1), none, none] [] y (zrP σ0 B σ ws nm ks R) := by
          intro y ty' ey
          have wy : KWd σ0 B y ws nm ks := by rw [ey]; exact wz.pi tz (by decide)
          have sy : SCl scO σ y := by rw [ey]; exact sz.tr (SCl.i (by decide))
          have y3 : y.1 75 3 = enF a' b' c' d' e' g' := by rw [ey]; exact z3
          have y4 : y.1 75 4 = nI (j + 1) := by
            rw [ey]; show z.1 75 4 + Int32.ofInt 1 = _
            rw [z4]; exact nI_1 j
          refine kjZ_y rfl rfl 4 _ _ _ _ ty' ?_
          refine (And.intro (ty'.k (by decide) rfl) (And.intro (Nat.le_of_ble_eq_true rfl) (And.intro (Or.inl ⟨(Nat.le_of_ble_eq_true rfl), (ty'.k (by decide) rfl)⟩) (And.intro (Nat.le_of_ble_eq_true rfl) (And.intro (Nat.le_of_ble_eq_true rfl) (kjY_mono ty' (fun q_ u2 ty2 xu2 h_ => ?_) (kx_flagOfO ty' wy (i := j + 1) (by omega) _ y4)))))))
          obtain ⟨rfl, rfl⟩ := h_
          intro _ _
          refine kjZ_y rfl rfl 2 _ _ _ _ ty2 ?_
          refine (And.intro (Nat.le_of_ble_eq_true rfl) ?_)
          exact ih (j + 1) a' b' c' d' e' g' _ u2 (by omega) (by omega) rfl ty2 wy sy y3 y4 (by rw [← hR, hdr, zoF_3 g6])
        exact go2 _ tz' rfl
      exact go _ ty1' rfl
theorem kx_readFlags (ty : kTY σ) (w : KWd σ0 B σ ws nm ks) (hl : 2 ≤ ws.length) : kjY kPP (kQQ Y) (d + 8) 236 0 (mjL0 4 [.ref 75]) [] σ (zrP σ0 B σ ws nm ks (zoF (ws.drop 2) (0, 0, 0, 0, 0, 0))) := by
  have hK : ∀ (j : Nat) (a b c d1 e g : Bool) (x1 : Int32) (u : kS), 2 ≤ j → j ≤ ws.length → kTY u → KWd σ0 B u ws nm ks → SCl scO σ u → u.1 75 3 = enF a b c d1 e g → u.1 75 4 = nI j → zoF (ws.drop 2) (0, 0, 0, 0, 0, 0) = some (zf6 a b c d1 e g, ws.drop j) → kjY kPP (kQQ Y) (d + 8) 236 43 [some (.ref 75), some (.int x1), none, none] [] u (zrP σ0 B σ ws nm ks (zoF (ws.drop 2) (0, 0, 0, 0, 0, 0))) := by
    intro j a b c d1 e g x1 u h2 hjl tu wu su h3 h4 hR
    obtain ⟨-, -, -, -, ⟨hc, h1024⟩, -⟩ := wu.2.2.2.1
    have hdl : (ws.drop j).length = ws.length - j := List.length_drop
    have e2 : u.1 53 4 - u.1 75 4 = nI (ws.length - j) := by rw [hc, h4]; exact nI_sub3 hjl
    obtain ⟨x2, hx2⟩ : ∃ x2, x2 = u.1 53 4 - u.1 75 4 := ⟨_, rfl⟩
    rw [← hx2] at e2
    have no : zoC (zf6 a b c d1 e g) (ws.drop j) → ∀ x3, kjY kPP (kQQ Y) (d + 8) 236 88 [some (.ref 75), some (.int x1), some (.int x2), some (.int x3)] [] u (zrP σ0 B σ ws nm ks (zoF (ws.drop 2) (0, 0, 0, 0, 0, 0))) := by
      intro hz x3
      refine kjZ_y rfl rfl 2 _ _ _ _ tu ?_
      refine And.intro rfl (And.intro (Or.inr (Or.inl ⟨rfl, Or.inl rfl⟩)) ?_)
      exact ⟨wu, su, Or.inl ⟨rfl, Or.inr ⟨_, hR, hz⟩⟩⟩
    have bad : zoC (zf6 a b c d1 e g) (ws.drop j) → kjY kPP (kQQ Y) (d + 8) 236 73 [some (.ref 75), some (.int x1), some (.int x2), none] [] u (zrP σ0 B σ ws nm ks (zoF (ws.drop 2) (0, 0, 0, 0, 0, 0))) := by
      intro hz
      refine kjZ_y rfl rfl 3 _ _ _ _ tu ?_
      refine (And.intro (Nat.le_of_ble_eq_true rfl) ?_)
      refine kjZ_y rfl rfl 2 _ _ _ _ tu ?_
      refine And.intro (fun c1 => ?_) (fun c1 => ?_)
      · exact no hz _
      · exact absurd (show ¬ Int32.ofInt 1 = 0 by decide) c1
    have fine : (a = true → b = false ∧ c = false ∧ d1 = false) → ¬ (c = true ∧ d1 = true) → (g = true → ws.length - j = 2) → kjY kPP (kQQ Y) (d + 8) 236 75 [some (.ref 75), some (.int x1), some (.int x2), none] [] u (zrP σ0 B σ ws nm ks (zoF (ws.drop 2) (0, 0, 0, 0, 0, 0))) := by
      intro k1 k2 k3
      refine kjZ_y rfl rfl 2 _ _ _ _ tu ?_
      refine (And.intro (Nat.le_of_ble_eq_true rfl) ?_)
      refine kjZ_y rfl rfl 2 _ _ _ _ tu ?_
      refine And.intro (fun c1 => ?_) (fun c1 => ?_)
      · exact absurd rfl c1
      refine kjZ_y rfl rfl 3 _ _ _ _ tu ?_
      refine And.intro (fun c2 => ?_) (fun c2 => ?_)
      · have c2 : x2 < Int32.ofInt 2 := c2
        rw [e2, show Int32.ofInt 2 = nI 2 from rfl, nlt (by omega) (by decide)] at c2
        exact no (Or.inl (by rw [hdl]; exact c2)) _
      have c2 : ¬ x2 < Int32.ofInt 2 := c2
      rw [e2, show Int32.ofInt 2 = nI 2 from rfl, nlt (by omega) (by decide)] at c2
      have em : x2 - x2 / Int32.ofInt 2 * Int32.ofInt 2 = nI ((ws.length - j) % 2) := by rw [e2]; exact nI_rem (by omega) (by decide) (by decide)
      refine kjZ_y rfl rfl 4 _ _ _ _ tu ?_
      refine (And.intro (by decide) (And.intro (fun c3 => ?_) (fun c3 => ?_)))
      · refine no (Or.inr (Or.inl ?_)) _
        rw [hdl]
        have c3 : ¬ x2 - x2 / Int32.ofInt 2 * Int32.ofInt 2 = 0 := c3
        rw [em] at c3
        rcases Nat.mod_two_eq_zero_or_one (ws.length - j) with z | z
        · rw [z] at c3; exact absurd rfl c3
        · exact z
      have c3 : x2 - x2 / Int32.ofInt 2 * Int32.ofInt 2 = 0 := Decidable.byContradiction c3
      have hev : (ws.length - j) % 2 = 0 := by
        rw [em] at c3
        exact (nI_eq (b := 0) (by omega) (by decide)).mp c3
      refine kjZ_y rfl rfl 3 _ _ _ _ tu ?_
      refine And.intro rfl (And.intro (Or.inr (Or.inl ⟨rfl, Or.inr rfl⟩)) ?_)
      refine ⟨wu, su, Or.inr ⟨a, b, c, d1, e, g, j, rfl, hR, ?_, h2, hjl, h3, h4⟩⟩
      rintro (z | z | ⟨z1, z2⟩ | ⟨z1, z2⟩ | ⟨z1, z2⟩)
      · rw [hdl] at z; exact c2 z
      · rw [hdl] at z; omega
      · have : g = true := by cases g; exact absurd rfl z1; rfl
        have := k3 this
        rw [hdl] at z2; omega
      · have : a = true := by cases a; exact absurd rfl z1; rfl
        obtain ⟨rfl, rfl, rfl⟩ := k1 this
        rcases z2 with z2 | z2 | z2 <;> exact z2 rfl
      · refine k2 ⟨?_, ?_⟩
        · cases c; exact absurd rfl z1; rfl
        · cases d1; exact absurd rfl z2; rfl
    -- the third clash
    have s66 : (a = true → b = false ∧ c = false ∧ d1 = false) → ¬ (c = true ∧ d1 = true) → kjY kPP (kQQ Y) (d + 8) 236 66 [some (.ref 75), some (.int x1), some (.int x2), none] [] u (zrP σ0 B σ ws nm ks (zoF (ws.drop 2) (0, 0, 0, 0, 0, 0))) := by
      intro k1 k2
      refine kjZ_y rfl rfl 3 _ _ _ _ tu ?_
      refine (And.intro (Nat.le_of_ble_eq_true rfl) (And.intro (Or.inl ⟨(Nat.le_of_ble_eq_true rfl), (tu.k (by decide) rfl)⟩) (And.intro (Nat.le_of_ble_eq_true rfl) (And.intro (Nat.le_of_ble_eq_true rfl) (kjY_mono tu (fun q_ u1 ty1 xu1 h_ => ?_) (kx_told tu _))))))
      obtain ⟨rfl, q⟩ := h_
      intro _ _
      rcases q with ⟨rfl, q⟩ | ⟨rfl, q⟩
      · have q : ¬ u1.1 75 3 &&& 32 = 0 := q
        rw [h3, enF_32] at q
        refine kjZ_y rfl rfl 1 _ _ _ _ ty1 ?_
        refine And.intro (fun c1 => ?_) (fun c1 => ?_)
        · exact absurd (show (1 : Int32) = 0 from c1) (by decide)
        refine kjZ_y rfl rfl 3 _ _ _ _ ty1 ?_
        refine And.intro (fun c2 => ?_) (fun c2 => ?_)
        · have c2 : x2 = Int32.ofInt 2 := c2
          rw [e2, show Int32.ofInt 2 = nI 2 from rfl, nI_eq (by omega) (by decide)] at c2
          exact fine k1 k2 (fun _ => c2)
        · have c2 : ¬ x2 = Int32.ofInt 2 := c2
          rw [e2, show Int32.ofInt 2 = nI 2 from rfl, nI_eq (by omega) (by decide)] at c2
          refine bad ?_
          by_cases h9 : ws.length - j < 2
          · exact Or.inl (by rw [hdl]; exact h9)
          · refine Or.inr (Or.inr (Or.inl ⟨fun z => q (bI_0.mp z), by rw [hdl]; omega⟩))
      · have q : u1.1 75 3 &&& 32 = 0 := q
        rw [h3, enF_32] at q
        refine kjZ_y rfl rfl 1 _ _ _ _ ty1 ?_
        refine And.intro (fun c1 => ?_) (fun c1 => ?_)
        rotate_left
        · exact absurd rfl c1
        exact fine k1 k2 (fun z => by rw [q] at z; cases z)
    have s58 : (a = true → b = false ∧ c = false ∧ d1 = false) → kjY kPP (kQQ Y) (d + 8) 236 58 [some (.ref 75), some (.int x1), some (.int x2), none] [] u (zrP σ0 B σ ws nm ks (zoF (ws.drop 2) (0, 0, 0, 0, 0, 0))) := by
      intro k1
      refine kjZ_y rfl rfl 3 _ _ _ _ tu ?_
      refine (And.intro (Nat.le_of_ble_eq_true rfl) (And.intro (Or.inl ⟨(Nat.le_of_ble_eq_true rfl), (tu.k (by decide) rfl)⟩) (And.intro (Nat.le_of_ble_eq_true rfl) (And.intro (Nat.le_of_ble_eq_true rfl) (kjY_mono tu (fun q_ u1 ty1 xu1 h_ => ?_) (kx_told tu _))))))
      obtain ⟨rfl, q⟩ := h_
      intro _ _
      rcases q with ⟨rfl, q⟩ | ⟨rfl, q⟩
      · have q : ¬ u1.1 75 3 &&& 4 = 0 := q
        rw [h3, enF_4] at q
        have q0 := q
        clear q
        refine kjZ_y rfl rfl 1 _ _ _ _ ty1 ?_
        refine And.intro (fun c1 => ?_) (fun c1 => ?_)
        · exact absurd (show (1 : Int32) = 0 from c1) (by decide)
        refine kjZ_y rfl rfl 3 _ _ _ _ ty1 ?_
        refine (And.intro (Nat.le_of_ble_eq_true rfl) (And.intro (Or.inl ⟨(Nat.le_of_ble_eq_true rfl), (ty1.k (by decide) rfl)⟩) (And.intro (Nat.le_of_ble_eq_true rfl) (And.intro (Nat.le_of_ble_eq_true rfl) (kjY_mono ty1 (fun q_ u2 ty2 xu2 h_ => ?_) (kx_told ty1 _))))))
        obtain ⟨rfl, q2⟩ := h_
        intro _ _
        rcases q2 with ⟨rfl, q2⟩ | ⟨rfl, q2⟩
        · have q2 : ¬ u2.1 75 3 &&& 8 = 0 := q2
          rw [h3, enF_8] at q2
          refine kjZ_y rfl rfl 1 _ _ _ _ ty2 ?_
          refine And.intro (fun c2 => ?_) (fun c2 => ?_)
          · exact bad (Or.inr (Or.inr (Or.inr (Or.inr ⟨fun z => q0 (bI_0.mp z), fun z => q2 (bI_0.mp z)⟩))))
          · exact absurd (show ¬ (1 : Int32) = 0 by decide) c2
        · have q2 : u2.1 75 3 &&& 8 = 0 := q2
          rw [h3, enF_8] at q2
          refine kjZ_y rfl rfl 1 _ _ _ _ ty2 ?_
          refine And.intro (fun c2 => ?_) (fun c2 => ?_)
          · exact absurd rfl c2
          · exact s66 k1 (fun z => by rw [q2] at z; exact absurd z.2 Bool.false_ne_true)
      · have q : u1.1 75 3 &&& 4 = 0 := q
        rw [h3, enF_4] at q
        refine kjZ_y rfl rfl 1 _ _ _ _ ty1 ?_
        refine And.intro (fun c1 => ?_) (fun c1 => ?_)
        rotate_left
        · exact absurd rfl c1
        exact s66 k1 (fun z => by rw [q] at z; exact absurd z.1 Bool.false_ne_true)
    refine kjZ_y rfl rfl 7 _ _ _ _ tu ?_
    refine (And.intro (tu.k (by decide) rfl) (And.intro (tu.k (by decide) rfl) (And.intro (tu.k (by decide) rfl) (And.intro (Nat.le_of_ble_eq_true rfl) ?_))))
    rw [show u.1 (kT 257).snd.fst (100 % 32) - u.1 75 (260 % 32) = x2 from hx2.symm]
    refine kjZ_y rfl rfl 3 _ _ _ _ tu ?_
    refine (And.intro (Nat.le_of_ble_eq_true rfl) (And.intro (Or.inl ⟨(Nat.le_of_ble_eq_true rfl), (tu.k (by decide) rfl)⟩) (And.intro (Nat.le_of_ble_eq_true rfl) (And.intro (Nat.le_of_ble_eq_true rfl) (kjY_mono tu (fun q_ u1 ty1 xu1 h_ => ?_) (kx_told tu _))))))
    obtain ⟨rfl, q⟩ := h_
    intro _ _
    rcases q with ⟨rfl, q⟩ | ⟨rfl, q⟩
    · have q : ¬ u1.1 75 3 &&& 1 = 0 := q
      rw [h3, enF_1] at q
      have q0 := q
      clear q
      refine kjZ_y rfl rfl 1 _ _ _ _ ty1 ?_
      refine And.intro (fun c1 => ?_) (fun c1 => ?_)
      · exact absurd (show (1 : Int32) = 0 from c1) (by decide)
      refine kjZ_y rfl rfl 3 _ _ _ _ ty1 ?_
      refine (And.intro (Nat.le_of_ble_eq_true rfl) (And.intro (Or.inl ⟨(Nat.le_of_ble_eq_true rfl), (ty1.k (by decide) rfl)⟩) (And.intro (Nat.le_of_ble_eq_true rfl) (And.intro (Nat.le_of_ble_eq_true rfl) (kjY_mono ty1 (fun q_ u2 ty2 xu2 h_ => ?_) (kx_told ty1 _))))))
      obtain ⟨rfl, q2⟩ := h_
      intro _ _
      rcases q2 with ⟨rfl, q2⟩ | ⟨rfl, q2⟩
      · have q2 : ¬ u2.1 75 3 &&& 14 = 0 := q2
        rw [h3, enF_14] at q2
        refine kjZ_y rfl rfl 1 _ _ _ _ ty2 ?_
        refine And.intro (fun c2 => ?_) (fun c2 => ?_)
        · refine bad (Or.inr (Or.inr (Or.inr (Or.inl ⟨fun z => q0 (bI_0.mp z), ?_⟩))))
          show ¬ bI b = 0 ∨ ¬ bI c = 0 ∨ ¬ bI d1 = 0
          rw [bI_0, bI_0, bI_0]
          cases b
          · cases c
            · cases d1
              · exact absurd ⟨rfl, rfl, rfl⟩ q2
              · exact Or.inr (Or.inr (by decide))
            · exact Or.inr (Or.inl (by decide))
          · exact Or.inl (by decide)
        · exact absurd (show ¬ (1 : Int32) = 0 by decide) c2
      · have q2 : u2.1 75 3 &&& 14 = 0 := q2
        rw [h3, enF_14] at q2
        refine kjZ_y rfl rfl 1 _ _ _ _ ty2 ?_
        refine And.intro (fun c2 => ?_) (fun c2 => ?_)
        · exact absurd rfl c2
        · exact s58 (fun _ => q2)
    · have q : u1.1 75 3 &&& 1 = 0 := q
      rw [h3, enF_1] at q
      refine kjZ_y rfl rfl 1 _ _ _ _ ty1 ?_
      refine And.intro (fun c1 => ?_) (fun c1 => ?_)
      rotate_left
      · exact absurd rfl c1
      exact s58 (fun z => by rw [q] at z; cases z)
  refine kjZ_y rfl rfl 6 _ _ _ _ ty ?_
  refine (And.intro (ty.k (by decide) rfl) (And.intro (Or.inl rfl) (fun ty' => (And.intro (ty'.k (by decide) rfl) (And.intro (Or.inl rfl) (fun ty'' => ?_))))))
  have go : ∀ z, kTY z → z = (mjIu (mjIu σ.1 75 3 (Int32.ofInt 0)) 75 4 (Int32.ofInt 2), σ.2) → kjY kPP (kQQ Y) (d + 8) 236 6 [some (.ref 75), none, none, none] [] z (zrP σ0 B σ ws nm ks (zoF (ws.drop 2) (0, 0, 0, 0, 0, 0))) := by
    intro z tz ez
    have wz : KWd σ0 B z ws nm ks := by rw [ez]; exact KWd.pi (σ := (mjIu σ.1 75 3 (Int32.ofInt 0), σ.2)) ty' (w.pi ty (by decide)) (by decide)
    have sz : SCl scO σ z := by rw [ez]; exact SCl.tr (SCl.i (h := 75) (x := 3) (v := Int32.ofInt 0) (by decide)) (SCl.i (by decide))
    have z3 : z.1 75 3 = enF false false false false false false := by rw [ez]; rfl
    have z4 : z.1 75 4 = nI 2 := by rw [ez]; rfl
    refine kjZ_y rfl rfl 4 _ _ _ _ tz ?_
    refine (And.intro (tz.k (by decide) rfl) (And.intro (Nat.le_of_ble_eq_true rfl) (And.intro (Or.inl ⟨(Nat.le_of_ble_eq_true rfl), (tz.k (by decide) rfl)⟩) (And.intro (Nat.le_of_ble_eq_true rfl) (And.intro (Nat.le_of_ble_eq_true rfl) (kjY_mono tz (fun q_ u1 ty1 xu1 h_ => ?_) (kx_flagOfO tz wz (i := 2) (by decide) _ z4)))))))
    obtain ⟨rfl, rfl⟩ := h_
    intro _ _
    refine kjZ_y rfl rfl 1 _ _ _ _ ty1 ?_
    refine (And.intro (Nat.le_of_ble_eq_true rfl) ?_)
    exact k_rdf_l (d := d) hK (ws.length - 2) 2 false false false false false false _ u1 (by omega) (Nat.le_refl _) rfl ty1 wz sz z3 z4 rfl
  exact go _ ty'' rfl
end KZFL
