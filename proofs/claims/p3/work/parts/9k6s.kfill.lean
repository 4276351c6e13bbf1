/-! The pot becomes what comes of the sets. -/
def poS (how : Nat) (ms : List (List Int32)) (es : List AE) : List (List Int32) := if how = 1 then adL ms es else ms.filter (sfT es (decide (how = 0)))
def poL (how : Nat) (A : List AK) : List (List Int32) → List (List Int32) → List (List Int32)
  | ms, [] => ms
  | ms, w :: r => poL how A (poS how ms (esA A w)) r
def poM (how : Nat) (A : List AK) (ws : List (List Int32)) (f : Nat) : List (List Int32) := poL how A (adL [] (esA A (ws.getD f []))) (ws.drop (f + 1))
theorem poS_SN {how : Nat} {ms : List (List Int32)} (h : SN ms) (es : List AE) : SN (poS how ms es) := by
  unfold poS
  by_cases c : how = 1
  · rw [if_pos c]; exact adL_SN _ _ h
  · rw [if_neg c]; exact List.Pairwise.sublist List.filter_sublist h
theorem poL_ge (A : List AK) : ∀ (r ms : List (List Int32)), ms.length ≤ (poL 1 A ms r).length := by
  intro r
  induction r with
  | nil => intro ms; exact Nat.le_refl _
  | cons w r ih =>
    intro ms
    refine Nat.le_trans ?_ (ih (poS 1 ms (esA A w)))
    unfold poS; rw [if_pos rfl]; exact adL_ge _ _
theorem esA_k {P Q : List KC} {y : KC} {v : List Int32} (f2 : kyI (skA (P ++ y :: Q)) v = some P.length) : esA (skA (P ++ y :: Q)) v = y.2.2.2.2.2.2.2.2.2.2 := by
  unfold esA; rw [f2]
  show (match (skA (P ++ y :: Q))[P.length]? with | some a => _ | none => _) = _
  rw [skA_at]
theorem esA_0 {A : List AK} {v : List Int32} (h : kyI A v = none) : esA A v = [] := by unfold esA; rw [h]
section KFILL
variable {Y : Nat → MethodName × ByteArray} {d : Nat} {σ0 σ u : kS} {B ws nm nm' : List (List Int32)} {ks : List KC}
/-- SUNION is 81, SINTER 71, SDIFF 64 -/
def hwC (how : Nat) : Nat := if how = 0 then 71 else if how = 1 then 81 else 64
theorem k_fillp_l (hB : BOK B ws) (hS : ∀ x ∈ ks, x.2.2.2.2.2.2.1 = 3 → SP x.2.2.2.2.2.2.2.2.2.2) {how : Nat} (hh : how < 3) {a : Nat} (hso : ∀ i v, a ≤ i → ws[i]? = some v → ¬ soT (skA ks) v (nI 3) = false) (x2 : Int32) :
    ∀ (f i : Nat) (x3 : Int32) (o4 : Option Value) (ms nm' : List (List Int32)) (u : kS), i + f = ws.length → a ≤ i → x3 = nI i → kTY u → PRE nm nm' → KWd σ0 B u ws nm' ks → SCl scA σ u → PTT u nm' ms → SN ms → (how = 1 → (poL how (skA ks) ms (ws.drop i)).length ≤ 8700) →
    kjY kPP (kQQ Y) (d + 6) 225 16 [some (.ref 71), some (.ref (1000000 + hwC how)), some (.int x2), some (.int x3), o4] [] u (fun r z => r = none ∧ ∃ nm', PRE nm nm' ∧ KWd σ0 B z ws nm' ks ∧ SCl scA σ z ∧ PTT z nm' (poL how (skA ks) ms (ws.drop i))) := by
  have kj : kCm (1000000 + hwC how) := ⟨hwC how, by unfold hwC; split; decide; split <;> decide, rfl⟩
  intro f
  induction f with
  | zero =>
    intro i x3 o4 ms nm' u hi hai e3 tu hp wu su hpt hsn hl
    obtain ⟨g, M, -, -, ⟨h4, h1024⟩, -⟩ := wu.2.2.2.1
    refine kjZ_y rfl rfl 5 _ _ _ _ tu ?_
    refine (And.intro (tu.k (by decide) rfl) (And.intro (tu.k (by decide) rfl) (And.intro (fun c => ?_) (fun c => ?_))))
    rotate_left
    · refine absurd (show u.1 53 4 ≤ x3 from ?_) c
      rw [h4, e3, nle (by omega) (by omega)]; omega
    refine kjZ_y rfl rfl 1 _ _ _ _ tu ?_
    refine And.intro rfl (And.intro rfl ?_)
    rw [List.drop_eq_nil_of_le (by omega)]
    exact ⟨rfl, nm', hp, wu, su, hpt⟩
  | succ f ih =>
    intro i x3 o4 ms nm' u hi hai e3 tu hp wu su hpt hsn hl
    obtain ⟨g, M, -, -, ⟨h4, h1024⟩, -⟩ := wu.2.2.2.1
    have hil : i < ws.length := by omega
    have hd : ws.drop i = ws[i] :: ws.drop (i + 1) := List.drop_eq_getElem_cons hil
    have hv := List.getElem?_eq_getElem hil
    generalize ws[i] = v at hv hd
    have hsv := hso i v hai hv
    refine kjZ_y rfl rfl 5 _ _ _ _ tu ?_
    refine (And.intro (tu.k (by decide) rfl) (And.intro (tu.k (by decide) rfl) (And.intro (fun c => ?_) (fun c => ?_))))
    · refine absurd (show u.1 53 4 ≤ x3 from c) ?_
      rw [h4, e3, nle (by omega) (by omega)]; omega
    refine kjZ_y rfl rfl 6 _ _ _ _ tu ?_
    refine (And.intro (tu.k (by decide) rfl) (And.intro (tu.k (by decide) rfl) (And.intro (Nat.le_of_ble_eq_true rfl) (And.intro (Or.inl ⟨(Nat.le_of_ble_eq_true rfl), (tu.k (by decide) rfl)⟩) (And.intro (Nat.le_of_ble_eq_true rfl) (And.intro (Nat.le_of_ble_eq_true rfl) (kjY_mono tu (fun q_ u1 ty1 xu1 h_ => ?_) (kx_id2 tu wu hB hv _ e3))))))))
    obtain ⟨⟨k, nm2, rfl, p2, p3, w1, s1⟩, pt1⟩ := h_
    intro _ _
    have hpt1 := (pt1 _ _ hpt).mono p3
    refine kjZ_y rfl rfl 1 _ _ _ _ ty1 ?_
    refine (And.intro (Nat.le_of_ble_eq_true rfl) (And.intro (Or.inl ⟨(Nat.le_of_ble_eq_true rfl), (ty1.k (by decide) rfl)⟩) (And.intro (Nat.le_of_ble_eq_true rfl) (And.intro (Nat.le_of_ble_eq_true rfl) (kjY_mono ty1 (fun q_ u2 ty2 xu2 h_ => ?_) (kx_find ty1 w1 p2 _ rfl))))))
    obtain ⟨rfl, q3⟩ := h_
    intro _ _
    rw [hd] at hl ⊢
    have nx : ∀ (z : kS) (o4 : Value), kTY z → KWd σ0 B z ws nm2 ks → SCl scA σ z → PTT z nm2 (poS how ms (esA (skA ks) v)) → kjY kPP (kQQ Y) (d + 6) 225 45 [some (.ref 71), some (.ref (1000000 + hwC how)), some (.int x2), some (.int x3), some o4] [] z (fun r z => r = none ∧ ∃ nm', PRE nm nm' ∧ KWd σ0 B z ws nm' ks ∧ SCl scA σ z ∧ PTT z nm' (poL how (skA ks) ms (v :: ws.drop (i + 1)))) := by
      intro z o4 tz wz sz hz
      refine kjZ_y rfl rfl 2 _ _ _ _ tz ?_
      exact ih (i + 1) _ _ (poS how ms (esA (skA ks) v)) nm2 z (by omega) (by omega) (by rw [e3]; exact nI_1 i) tz (hp.tr p3) wz sz hz (poS_SN hsn _) hl
    have eu : how = 1 ↔ 1000000 + hwC how = 1000081 := by
      unfold hwC; rcases (show how = 0 ∨ how = 1 ∨ how = 2 by omega) with h | h | h <;> subst h <;> decide
    have ei : how = 0 ↔ 1000000 + hwC how = 1000071 := by
      unfold hwC; rcases (show how = 0 ∨ how = 1 ∨ how = 2 by omega) with h | h | h <;> subst h <;> decide
    have hl1 : how = 1 → (adL ms (esA (skA ks) v)).length ≤ 8700 := fun h => by
      have := hl h
      have h2 := poL_ge (skA ks) (ws.drop (i + 1)) (poS 1 ms (esA (skA ks) v))
      subst h
      have this : (poL 1 (skA ks) (poS 1 ms (esA (skA ks) v)) (ws.drop (i + 1))).length ≤ 8700 := this
      have e : poS 1 ms (esA (skA ks) v) = adL ms (esA (skA ks) v) := if_pos rfl
      rw [e] at h2 this; omega
    rcases q3 with ⟨rfl, q3⟩ | ⟨P, y, Q, rfl, f0, f1, f2⟩
    · have ee := esA_0 q3
      refine kjZ_y rfl rfl 4 _ _ _ _ ty2 ?_
      refine (And.intro (Nat.le_of_ble_eq_true rfl) (And.intro ⟨(by assumption), ⟨81, by decide, rfl⟩, Or.inr rfl⟩ (And.intro (fun c2 => ?_) (fun c2 => ?_))))
      rotate_left
      · have c2 : 1000000 + hwC how = 1000081 := Decidable.of_not_not (fun z => c2 (ac_ne.mpr z))
        have h1 := eu.mpr c2
        refine kjZ_y rfl rfl 3 _ _ _ _ ty2 ?_
        refine (And.intro (Nat.le_of_ble_eq_true rfl) (And.intro (Or.inl ⟨(Nat.le_of_ble_eq_true rfl), (ty2.k (by decide) rfl)⟩) (And.intro (Nat.le_of_ble_eq_true rfl) (And.intro (Nat.le_of_ble_eq_true rfl) (kjY_mono ty2 (fun q_ u3 ty3 xu3 h_ => ?_) (kx_addPot0 ty2 w1 hpt1))))))
        obtain ⟨rfl, w3, s3, t3⟩ := h_
        intro _ _
        refine kjZ_y rfl rfl 1 _ _ _ _ ty3 ?_
        exact nx u3 _ ty3 w3 ((su.tr s1).tr s3) (by rw [ee]; unfold poS; rw [if_pos h1]; exact t3)
      have h1 : ¬ how = 1 := fun z => ac_ne.mp c2 (eu.mp z)
      have s44 : ∀ (b : Bool) (x : Int32), x = (if b = true then 1 else 0) → b = decide (how = 0) → kjY kPP (kQQ Y) (d + 6) 225 44 [some (.ref 71), some (.ref (1000000 + hwC how)), some (.int x2), some (.int x3), some .null] [.int x, .null, .ref 71] u2 (fun r z => r = none ∧ ∃ nm', PRE nm nm' ∧ KWd σ0 B z ws nm' ks ∧ SCl scA σ z ∧ PTT z nm' (poL how (skA ks) ms (v :: ws.drop (i + 1)))) := by
        intro b x ex eb
        refine kjZ_y rfl rfl 1 _ _ _ _ ty2 ?_
        refine (And.intro (Nat.le_of_ble_eq_true rfl) (And.intro (Or.inl ⟨(Nat.le_of_ble_eq_true rfl), (ty2.k (by decide) rfl)⟩) (And.intro (Nat.le_of_ble_eq_true rfl) (And.intro (Nat.le_of_ble_eq_true rfl) (kjY_mono ty2 (fun q_ u3 ty3 xu3 h_ => ?_) (kx_sift0 ty2 w1 b _ ex hpt1))))))
        obtain ⟨rfl, w3, s3, t3⟩ := h_
        intro _ _
        exact nx u3 _ ty3 w3 ((su.tr s1).tr s3) (by rw [ee]; unfold poS; rw [if_neg h1, ← eb]; exact t3)
      refine kjZ_y rfl rfl 5 _ _ _ _ ty2 ?_
      refine And.intro ⟨(by assumption), ⟨71, by decide, rfl⟩, Or.inr rfl⟩ (And.intro (fun c3 => ?_) (fun c3 => ?_))
      · have h0 : ¬ how = 0 := fun z => ac_ne.mp c3 (ei.mp z)
        refine kjZ_y rfl rfl 1 _ _ _ _ ty2 ?_
        exact s44 false _ rfl (decide_eq_false h0).symm
      · have h0 : how = 0 := ei.mpr (Decidable.of_not_not (fun z => c3 (ac_ne.mpr z)))
        refine kjZ_y rfl rfl 2 _ _ _ _ ty2 ?_
        exact s44 true _ rfl (decide_eq_true h0).symm
    · subst f0
      have hs3 : y.2.2.2.2.2.2.1 = 3 := so_1 (s := 3) f2 hsv
      have hSP := hS y (List.mem_append_right _ List.mem_cons_self) hs3
      have kv := (w1.sz (by rw [hs3]; decide)).2.2
      have ee := esA_k f2
      refine kjZ_y rfl rfl 4 _ _ _ _ ty2 ?_
      refine (And.intro (Nat.le_of_ble_eq_true rfl) (And.intro ⟨(by assumption), ⟨81, by decide, rfl⟩, Or.inr rfl⟩ (And.intro (fun c2 => ?_) (fun c2 => ?_))))
      rotate_left
      · have c2 : 1000000 + hwC how = 1000081 := Decidable.of_not_not (fun z => c2 (ac_ne.mpr z))
        have h1 := eu.mpr c2
        refine kjZ_y rfl rfl 3 _ _ _ _ ty2 ?_
        refine (And.intro (Nat.le_of_ble_eq_true rfl) (And.intro (Or.inl ⟨(Nat.le_of_ble_eq_true rfl), (ty2.k (by decide) rfl)⟩) (And.intro (Nat.le_of_ble_eq_true rfl) (And.intro (Nat.le_of_ble_eq_true rfl) (kjY_mono ty2 (fun q_ u3 ty3 xu3 h_ => ?_) (kx_addPot ty2 w1 hs3 hpt1 hsn (by rw [← ee]; exact hl1 h1)))))))
        obtain ⟨rfl, w3, s3, t3⟩ := h_
        intro _ _
        have kv3 := (w3.sz (by rw [hs3]; decide)).2.2
        refine kjZ_y rfl rfl 1 _ _ _ _ ty3 ?_
        exact nx u3 _ ty3 w3 ((su.tr s1).tr s3) (by rw [ee]; unfold poS; rw [if_pos h1]; exact t3)
      have h1 : ¬ how = 1 := fun z => ac_ne.mp c2 (eu.mp z)
      have s44 : ∀ (b : Bool) (x : Int32), x = (if b = true then 1 else 0) → b = decide (how = 0) → kjY kPP (kQQ Y) (d + 6) 225 44 [some (.ref 71), some (.ref (1000000 + hwC how)), some (.int x2), some (.int x3), some (.ref y.1)] [.int x, .ref y.1, .ref 71] u2 (fun r z => r = none ∧ ∃ nm', PRE nm nm' ∧ KWd σ0 B z ws nm' (P ++ y :: Q) ∧ SCl scA σ z ∧ PTT z nm' (poL how (skA (P ++ y :: Q)) ms (v :: ws.drop (i + 1)))) := by
        intro b x ex eb
        refine kjZ_y rfl rfl 1 _ _ _ _ ty2 ?_
        refine (And.intro (Nat.le_of_ble_eq_true rfl) (And.intro (Or.inl ⟨(Nat.le_of_ble_eq_true rfl), (ty2.k (by decide) rfl)⟩) (And.intro (Nat.le_of_ble_eq_true rfl) (And.intro (Nat.le_of_ble_eq_true rfl) (kjY_mono ty2 (fun q_ u3 ty3 xu3 h_ => ?_) (kx_sift ty2 w1 hs3 hSP b _ ex hpt1))))))
        obtain ⟨rfl, w3, s3, t3⟩ := h_
        intro _ _
        exact nx u3 _ ty3 w3 ((su.tr s1).tr s3) (by rw [ee]; unfold poS; rw [if_neg h1, ← eb]; exact t3)
      refine kjZ_y rfl rfl 5 _ _ _ _ ty2 ?_
      refine And.intro ⟨(by assumption), ⟨71, by decide, rfl⟩, Or.inr rfl⟩ (And.intro (fun c3 => ?_) (fun c3 => ?_))
      · have h0 : ¬ how = 0 := fun z => ac_ne.mp c3 (ei.mp z)
        refine kjZ_y rfl rfl 1 _ _ _ _ ty2 ?_
        exact s44 false _ rfl (decide_eq_false h0).symm
      · have h0 : how = 0 := ei.mpr (Decidable.of_not_not (fun z => c3 (ac_ne.mpr z)))
        refine kjZ_y rfl rfl 2 _ _ _ _ ty2 ?_
        exact s44 true _ rfl (decide_eq_true h0).symm
theorem kx_fill (ty : kTY σ) (w : KWd σ0 B σ ws nm ks) (hB : BOK B ws) (hS : ∀ x ∈ ks, x.2.2.2.2.2.2.1 = 3 → SP x.2.2.2.2.2.2.2.2.2.2) {how : Nat} (hh : how < 3) {a : Nat} (ha : a < ws.length) (hso : ∀ i v, a ≤ i → ws[i]? = some v → ¬ soT (skA ks) v (nI 3) = false) (x2 : Int32) (e2 : x2 = nI a) (hl : (adL [] (esA (skA ks) (ws.getD a []))).length ≤ 8700) (hl1 : how = 1 → (poM how (skA ks) ws a).length ≤ 8700) :
    kjY kPP (kQQ Y) (d + 6) 225 0 (mjL0 5 [.ref 71, .ref (1000000 + hwC how), .int x2]) [] σ (fun r z => r = none ∧ ∃ nm', PRE nm nm' ∧ KWd σ0 B z ws nm' ks ∧ SCl scA σ z ∧ PTT z nm' (poM how (skA ks) ws a)) := by
  have kj : kCm (1000000 + hwC how) := ⟨hwC how, by unfold hwC; split; decide; split <;> decide, rfl⟩
  have hv := List.getElem?_eq_getElem ha
  have hgd : ws.getD a [] = ws[a] := by rw [List.getD_eq_getElem?_getD, hv]; rfl
  rw [hgd] at hl
  have hM : poM how (skA ks) ws a = poL how (skA ks) (adL [] (esA (skA ks) ws[a])) (ws.drop (a + 1)) := by unfold poM; rw [hgd]
  generalize ws[a] = v at hv hl hM
  have hsv := hso a v (Nat.le_refl _) hv
  rw [hM] at hl1 ⊢
  refine kjZ_y rfl rfl 3 _ _ _ _ ty ?_
  refine (And.intro (ty.k (by decide) rfl) (And.intro (Or.inl rfl) (fun ty' => ?_)))
  obtain ⟨g, N, k, h1, h2, h3, h4, h5, h6⟩ := w.2.2.2.2.2.2.2.1
  have k71 : (σ.2.2.2.1 71).1 = 7 := ty.k (by decide) rfl
  have ng : ¬ g = 71 := fun z => by rw [z] at h2; rw [h2] at k71; exact absurd (show (20 : Nat) = 7 from k71) (by decide)
  have go : ∀ z, kTY z → z = (mjIu σ.1 71 5 (Int32.ofInt 0), σ.2) → kjY kPP (kQQ Y) (d + 6) 225 3 [some (.ref 71), some (.ref (1000000 + hwC how)), some (.int x2), none, none] [] z (fun r z => r = none ∧ ∃ nm', PRE nm nm' ∧ KWd σ0 B z ws nm' ks ∧ SCl scA σ z ∧ PTT z nm' (poL how (skA ks) (adL [] (esA (skA ks) v)) (ws.drop (a + 1)))) := by
    intro z tz ez
    have ez2 : z = (mjIu (kUp σ.1 g (σ.1 g)) 71 5 (nI 0), σ.2) := by
      rw [ez]; congr 2; funext h; by_cases y : h = g
      · rw [y, kUp_s]
      · rw [kUp_n y]
    obtain ⟨wz, sz⟩ := w.potS ty h1 h2 ⟨h3, h4⟩ _ (Nat.zero_le _) ez2
    have hpt : PTT z nm [] := ⟨g, N, by rw [ez]; exact h1, by rw [ez]; exact h2, h3, h4, by rw [ez]; show mjIu σ.1 71 5 _ 71 5 = _; rw [mjIu_at, if_pos ⟨rfl, rfl⟩]; rfl, Nat.zero_le _, fun i q hq => (by cases hq)⟩
    refine kjZ_y rfl rfl 7 _ _ _ _ tz ?_
    refine (And.intro (tz.k (by decide) rfl) (And.intro (tz.k (by decide) rfl) (And.intro (Nat.le_of_ble_eq_true rfl) (And.intro (Or.inl ⟨(Nat.le_of_ble_eq_true rfl), (tz.k (by decide) rfl)⟩) (And.intro (Nat.le_of_ble_eq_true rfl) (And.intro (Nat.le_of_ble_eq_true rfl) (kjY_mono tz (fun q_ u1 ty1 xu1 h_ => ?_) (kx_id2 tz wz hB hv _ e2))))))))
    obtain ⟨⟨k, nm2, rfl, p2, p3, w1, s1⟩, pt1⟩ := h_
    intro _ _
    have hpt1 := (pt1 _ _ hpt).mono p3
    refine kjZ_y rfl rfl 1 _ _ _ _ ty1 ?_
    refine (And.intro (Nat.le_of_ble_eq_true rfl) (And.intro (Or.inl ⟨(Nat.le_of_ble_eq_true rfl), (ty1.k (by decide) rfl)⟩) (And.intro (Nat.le_of_ble_eq_true rfl) (And.intro (Nat.le_of_ble_eq_true rfl) (kjY_mono ty1 (fun q_ u2 ty2 xu2 h_ => ?_) (kx_find ty1 w1 p2 _ rfl))))))
    obtain ⟨rfl, q3⟩ := h_
    intro _ _
    have nx : ∀ (z2 : kS), kTY z2 → KWd σ0 B z2 ws nm2 ks → SCl scA σ z2 → PTT z2 nm2 (adL [] (esA (skA ks) v)) → kjY kPP (kQQ Y) (d + 6) 225 12 [some (.ref 71), some (.ref (1000000 + hwC how)), some (.int x2), none, none] [] z2 (fun r z => r = none ∧ ∃ nm', PRE nm nm' ∧ KWd σ0 B z ws nm' ks ∧ SCl scA σ z ∧ PTT z nm' (poL how (skA ks) (adL [] (esA (skA ks) v)) (ws.drop (a + 1)))) := by
      intro z2 tz2 wz2 sz2 hz2
      refine kjZ_y rfl rfl 4 _ _ _ _ tz2 ?_
      refine (And.intro (Nat.le_of_ble_eq_true rfl) ?_)
      exact k_fillp_l hB hS hh hso x2 (ws.length - (a + 1)) (a + 1) _ _ (adL [] (esA (skA ks) v)) nm2 z2 (by omega) (by omega) (by rw [e2]; exact nI_1 a) tz2 p3 wz2 sz2 hz2 (adL_SN _ _ List.Pairwise.nil) hl1
    rcases q3 with ⟨rfl, q3⟩ | ⟨P, y, Q, rfl, f0, f1, f2⟩
    · have ee := esA_0 q3
      refine kjZ_y rfl rfl 1 _ _ _ _ ty2 ?_
      refine (And.intro (Nat.le_of_ble_eq_true rfl) (And.intro (Or.inl ⟨(Nat.le_of_ble_eq_true rfl), (ty2.k (by decide) rfl)⟩) (And.intro (Nat.le_of_ble_eq_true rfl) (And.intro (Nat.le_of_ble_eq_true rfl) (kjY_mono ty2 (fun q_ u3 ty3 xu3 h_ => ?_) (kx_addPot0 ty2 w1 hpt1))))))
      obtain ⟨rfl, w3, s3, t3⟩ := h_
      intro _ _
      exact nx u3 ty3 w3 ((sz.tr s1).tr s3) (by rw [ee]; exact t3)
    · subst f0
      have hs3 : y.2.2.2.2.2.2.1 = 3 := so_1 (s := 3) f2 hsv
      have kv := (w1.sz (by rw [hs3]; decide)).2.2
      have ee := esA_k f2
      refine kjZ_y rfl rfl 1 _ _ _ _ ty2 ?_
      refine (And.intro (Nat.le_of_ble_eq_true rfl) (And.intro (Or.inl ⟨(Nat.le_of_ble_eq_true rfl), (ty2.k (by decide) rfl)⟩) (And.intro (Nat.le_of_ble_eq_true rfl) (And.intro (Nat.le_of_ble_eq_true rfl) (kjY_mono ty2 (fun q_ u3 ty3 xu3 h_ => ?_) (kx_addPot ty2 w1 hs3 hpt1 List.Pairwise.nil (by rw [← ee]; exact hl)))))))
      obtain ⟨rfl, w3, s3, t3⟩ := h_
      intro _ _
      exact nx u3 ty3 w3 ((sz.tr s1).tr s3) (by rw [ee]; exact t3)
  exact go _ ty' rfl
end KFILL
