/-! The pot: a set comes to it; it is sifted. -/
theorem SN_iff {ms : List (List Int32)} : SRN ms ↔ SN ms := by
  have e : ∀ k (hk : k < ms.length), ms.getD k [] = ms[k] := fun k hk => by rw [List.getD_eq_getElem?_getD, List.getElem?_eq_getElem hk]; rfl
  unfold SN
  rw [List.pairwise_iff_getElem]
  constructor
  · intro h i j hi hj hij
    have := h i j hij hj
    rw [e i hi, e j hj] at this; exact this
  · intro h i j hij hj
    rw [e i (by omega), e j hj]; exact h i j (by omega) hj hij
theorem adW_SN {ms : List (List Int32)} (h : SN ms) (v : List Int32) : SN (adW v ms) := by
  unfold adW
  by_cases c : fdF v ms = true
  · rw [if_pos c]; exact h
  · rw [if_neg c]
    refine SN_iff.mp (SRN_in (SN_iff.mpr h) v (fun q hq z => c ?_)).1
    unfold fdF; rw [hq]; exact decide_eq_true z
def adL : List (List Int32) → List AE → List (List Int32)
  | ms, [] => ms
  | ms, z :: r => adL (adW z.1 ms) r
theorem adL_SN : ∀ (es : List AE) (ms : List (List Int32)), SN ms → SN (adL ms es) := by
  intro es
  induction es with
  | nil => intro ms h; exact h
  | cons z r ih => intro ms h; exact ih _ (adW_SN h z.1)
theorem adW_len (v : List Int32) (ms : List (List Int32)) : (adW v ms).length ≤ ms.length + 1 := by
  unfold adW
  by_cases c : fdF v ms = true
  · rw [if_pos c]; omega
  · rw [if_neg c, insL_len]; omega
theorem adL_len : ∀ (es : List AE) (ms : List (List Int32)), (adL ms es).length ≤ ms.length + es.length := by
  intro es
  induction es with
  | nil => intro ms; exact Nat.le_refl _
  | cons z r ih =>
    intro ms
    have h1 := ih (adW z.1 ms)
    have h2 := adW_len z.1 ms
    show (adL (adW z.1 ms) r).length ≤ ms.length + (r.length + 1); omega
theorem adL_ge : ∀ (es : List AE) (ms : List (List Int32)), ms.length ≤ (adL ms es).length := by
  intro es
  induction es with
  | nil => intro ms; exact Nat.le_refl _
  | cons z r ih =>
    intro ms
    have h1 := ih (adW z.1 ms)
    have h2 : ms.length ≤ (adW z.1 ms).length := by
      unfold adW
      by_cases c : fdF z.1 ms = true
      · rw [if_pos c]; exact Nat.le_refl _
      · rw [if_neg c, insL_len]; omega
    exact Nat.le_trans h2 h1
section KPOT3
variable {Y : Nat → MethodName × ByteArray} {d : Nat} {σ0 σ u : kS} {B ws nm nm' : List (List Int32)} {ks : List KC}
def poP (σ0 : kS) (B : List (List Int32)) (σ : kS) (ws nm : List (List Int32)) (ks : List KC) (ms : List (List Int32)) : kK := fun r u => r = none ∧ KWd σ0 B u ws nm ks ∧ SCl scA σ u ∧ PTT u nm ms
theorem k_apot_l {P Q : List KC} {x : KC} (hs : x.2.2.2.2.2.2.1 = 3) (x2 : Int32) (e2 : x2 = nI x.2.2.2.2.2.2.2.2.2.2.length) (hn : x.2.2.2.2.2.2.2.2.2.2.length ≤ 131072) (ty0 : kTY σ) :
    ∀ (f i : Nat) (x3 : Int32) (o4 o5 : Option Value) (ms : List (List Int32)) (u : kS), i + f = x.2.2.2.2.2.2.2.2.2.2.length → x3 = nI i → kTY u → KWd σ0 B u ws nm (P ++ x :: Q) → SCl scA σ u → PTT u nm ms → SN ms → (adL ms (x.2.2.2.2.2.2.2.2.2.2.drop i)).length ≤ 8700 →
    kjY kPP (kQQ Y) (d + 3) 226 9 [some (.ref 71), some (.ref x.1), some (.int x2), some (.int x3), o4, o5] [] u (poP σ0 B σ ws nm (P ++ x :: Q) (adL ms (x.2.2.2.2.2.2.2.2.2.2.drop i))) := by
  intro f
  induction f with
  | zero =>
    intro i x3 o4 o5 ms u hi e3 tu wu su hp hsn hl
    have kv := (wu.sz (by rw [hs]; decide)).2.2
    refine kjZ_y rfl rfl 3 _ _ _ _ tu ?_
    refine And.intro (fun c => ?_) (fun c => ?_)
    rotate_left
    · refine absurd (show x2 ≤ x3 from ?_) c
      rw [e2, e3, nle (by omega) (by omega)]; omega
    refine kjZ_y rfl rfl 1 _ _ _ _ tu ?_
    refine And.intro rfl (And.intro rfl ?_)
    rw [List.drop_eq_nil_of_le (by omega)]
    exact ⟨rfl, wu, su, hp⟩
  | succ f ih =>
    intro i x3 o4 o5 ms u hi e3 tu wu su hp hsn hl
    have kv := (wu.sz (by rw [hs]; decide)).2.2
    have hil : i < x.2.2.2.2.2.2.2.2.2.2.length := by omega
    have hd : x.2.2.2.2.2.2.2.2.2.2.drop i = x.2.2.2.2.2.2.2.2.2.2[i] :: x.2.2.2.2.2.2.2.2.2.2.drop (i + 1) := List.drop_eq_getElem_cons hil
    have hz := List.getElem?_eq_getElem hil
    generalize x.2.2.2.2.2.2.2.2.2.2[i] = z at hz hd
    refine kjZ_y rfl rfl 3 _ _ _ _ tu ?_
    refine And.intro (fun c => ?_) (fun c => ?_)
    · refine absurd (show x2 ≤ x3 from c) ?_
      rw [e2, e3, nle (by omega) (by omega)]; omega
    refine kjZ_y rfl rfl 3 _ _ _ _ tu ?_
    refine (And.intro (Nat.le_of_ble_eq_true rfl) (And.intro (Or.inl ⟨(Nat.le_of_ble_eq_true rfl), (by assumption)⟩) (And.intro (Nat.le_of_ble_eq_true rfl) (And.intro (Nat.le_of_ble_eq_true rfl) (kjY_mono tu (fun q_ u1 ty1 xu1 h_ => ?_) (kx_vat tu wu _))))))
    obtain ⟨rfl, x4, rfl, q4⟩ := h_
    intro _ _
    obtain ⟨km, e4, hkm⟩ := q4 (Or.inr hs) i z e3 hz
    have hpo := hp
    obtain ⟨g, N, h1, h2, h3, h4, h5, h6, h7⟩ := hp
    refine kjZ_y rfl rfl 10 _ _ _ _ ty1 ?_
    refine (And.intro (Nat.le_of_ble_eq_true rfl) (And.intro (ty1.k (by decide) rfl) (And.intro (ty1.k (by decide) rfl) (Exists.intro _ (And.intro h1 (And.intro (ty1.k (by decide) rfl) (And.intro (Nat.le_of_ble_eq_true rfl) (And.intro (Or.inl ⟨(Nat.le_of_ble_eq_true rfl), (ty1.k (by decide) rfl)⟩) (And.intro (Nat.le_of_ble_eq_true rfl) (And.intro (Nat.le_of_ble_eq_true rfl) (kjY_mono ty1 (fun q_ u2 ty2 xu2 h_ => ?_) (k_find ty1 wu.2.2.1.1 h2 (SN_iff.mpr hsn) h7 h6 (by omega) hkm _ _ h5 e4))))))))))))
    obtain ⟨rfl, rfl⟩ := h_
    intro _ _
    rw [hd] at hl ⊢
    have hl : (adL (adW z.1 ms) (x.2.2.2.2.2.2.2.2.2.2.drop (i + 1))).length ≤ 8700 := hl
    have hge := adL_ge (x.2.2.2.2.2.2.2.2.2.2.drop (i + 1)) (adW z.1 ms)
    have hpl := plF_le ms z.1
    have eR := fdR_F z.1 ms
    generalize fdR ms z.1 = y at eR
    have nx : ∀ (u : kS) (x5 : Int32) (ms' : List (List Int32)), kTY u → KWd σ0 B u ws nm (P ++ x :: Q) → SCl scA σ u → PTT u nm ms' → ms' = adW z.1 ms → kjY kPP (kQQ Y) (d + 3) 226 71 [some (.ref 71), some (.ref x.1), some (.int x2), some (.int x3), some (.int x4), some (.int x5)] [] u (poP σ0 B σ ws nm (P ++ x :: Q) (adL ms (z :: x.2.2.2.2.2.2.2.2.2.2.drop (i + 1)))) := by
      intro u x5 ms' tu wu su hp em
      have kv := (wu.sz (by rw [hs]; decide)).2.2
      refine kjZ_y rfl rfl 2 _ _ _ _ tu ?_
      subst em
      exact ih (i + 1) _ _ _ (adW z.1 ms) u (by omega) (by rw [e3]; exact nI_1 i) tu wu su hp (adW_SN hsn _) hl
    by_cases cf : fdF z.1 ms = true
    · rw [if_pos cf] at eR
      have e5 : Int32.ofInt (-1) - y < 0 := by
        rw [eR, Int32.lt_iff_toInt_lt, Int32.toInt_sub, nI_toInt (by omega), show ((Int32.ofInt (-1))).toInt = -1 by decide]
        rw [Int.bmod_eq_of_le (by omega) (by omega)]; show _ < (0 : Int); omega
      refine kjZ_y rfl rfl 4 _ _ _ _ ty2 ?_
      refine (And.intro (Nat.le_of_ble_eq_true rfl) (And.intro (fun c2 => ?_) (fun c2 => ?_)))
      rotate_left
      · exact absurd e5 c2
      exact nx u2 _ ms ty2 wu su hpo (by unfold adW; rw [if_pos cf])
    · rw [if_neg cf] at eR
      have e5 : Int32.ofInt (-1) - y = nI (plF ms z.1) := by
        rw [eR]
        have : ∀ a b : Int32, a - (a - b) = b := fun a b => by
          rw [Int32.sub_eq_add_neg, Int32.neg_sub, Int32.sub_eq_add_neg, ← Int32.add_assoc, Int32.add_comm a b, Int32.add_assoc, ← Int32.sub_eq_add_neg a a, Int32.sub_self, Int32.add_zero]
        exact this _ _
      refine kjZ_y rfl rfl 4 _ _ _ _ ty2 ?_
      refine (And.intro (Nat.le_of_ble_eq_true rfl) (And.intro (fun c2 => ?_) (fun c2 => ?_)))
      · exact absurd (show Int32.ofInt (-1) - y < 0 from c2) (by rw [e5]; exact nI_n0 (by omega))
      refine kx_pot29 (d := d) _ ty2 wu hpo (by unfold adW at hge hl; rw [if_neg cf] at hge hl; rw [insL_len] at hge; omega) (p := plF ms z.1) hpl hkm _ _ _ _ _ e4 e5 (fun u3 ty3 xu3 w3 s3 h3 => ?_)
      exact nx u3 _ _ ty3 w3 (su.tr s3) h3 (by unfold adW; rw [if_neg cf])
theorem kx_addPot (ty : kTY σ) {P Q : List KC} {x : KC} (w : KWd σ0 B σ ws nm (P ++ x :: Q)) (hs : x.2.2.2.2.2.2.1 = 3) {ms : List (List Int32)} (hp : PTT σ nm ms) (hsn : SN ms) (hl : (adL ms x.2.2.2.2.2.2.2.2.2.2).length ≤ 8700) : kjY kPP (kQQ Y) (d + 3) 226 0 (mjL0 6 [.ref 71, .ref x.1]) [] σ (poP σ0 B σ ws nm (P ++ x :: Q) (adL ms x.2.2.2.2.2.2.2.2.2.2)) := by
  obtain ⟨z1, z2, kv⟩ := w.sz (by rw [hs]; decide)
  refine kjZ_y rfl rfl 7 _ _ _ _ ty ?_
  refine (And.intro (by assumption) (And.intro (Nat.le_of_ble_eq_true rfl) (And.intro (Nat.le_of_ble_eq_true rfl) ?_)))
  exact k_apot_l hs _ z1 z2 ty _ 0 _ _ _ ms σ (Nat.zero_add _) rfl ty w SCl.rf hp hsn hl
theorem kx_addPot0 (ty : kTY σ) (w : KWd σ0 B σ ws nm ks) {ms : List (List Int32)} (hp : PTT σ nm ms) : kjY kPP (kQQ Y) (d + 3) 226 0 (mjL0 6 [.ref 71, .null]) [] σ (poP σ0 B σ ws nm ks (adL ms [])) := by
  refine kjZ_y rfl rfl 7 _ _ _ _ ty ?_
  refine (And.intro (Nat.le_of_ble_eq_true rfl) (And.intro (Nat.le_of_ble_eq_true rfl) ?_))
  refine kjZ_y rfl rfl 3 _ _ _ _ ty ?_
  refine And.intro (fun c => ?_) (fun c => ?_)
  rotate_left
  · exact absurd (show Int32.ofInt 0 ≤ Int32.ofInt 0 by decide) c
  refine kjZ_y rfl rfl 1 _ _ _ _ ty ?_
  refine And.intro rfl (And.intro rfl ?_)
  exact ⟨rfl, w, SCl.rf, hp⟩
/-- the pot's row alone -/
theorem KWd.potR (ty : kTY σ) (w : KWd σ0 B σ ws nm ks) {g N k : Nat} (h1 : σ.2.2.1 71 4 = some g) (h2 : σ.2.2.2.1 g = (20, N)) (h3 : 64 ≤ N ∧ N ≤ 17400) (h5 : σ.1 71 5 = nI k) (hk : k ≤ N) (f : Nat → Int32) (e : u = (kUp σ.1 g f, σ.2)) : KWd σ0 B u ws nm ks ∧ SCl scA σ u := by
  have k71 : (σ.2.2.2.1 71).1 = 7 := ty.k (by decide) rfl
  have ng : ¬ g = 71 := fun z => by rw [z] at h2; rw [h2] at k71; exact absurd (show (20 : Nat) = 7 from k71) (by decide)
  refine w.potS ty h1 h2 h3 f hk ?_
  rw [e]
  congr 1
  funext h x
  rw [mjIu_at]
  by_cases c : h = 71 ∧ x = 5
  · rw [if_pos c, c.1, c.2, kUp_n (fun z => ng z.symm), h5]
  · rw [if_neg c]
theorem filt_s {α : Type} {l : List α} (T : α → Bool) {i : Nat} {v : α} (h : l[i]? = some v) : (l.take (i + 1)).filter T = (l.take i).filter T ++ (if T v = true then [v] else []) := by
  have e : l.take (i + 1) = l.take i ++ [v] := by
    rw [List.take_add_one, h]; rfl
  rw [e, List.filter_append]
  congr 1
  by_cases c : T v = true
  · rw [if_pos c, List.filter_cons_of_pos c]; rfl
  · rw [if_neg c, List.filter_cons_of_neg c]; rfl
end KPOT3
