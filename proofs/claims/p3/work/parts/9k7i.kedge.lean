/-! Orders: edges, and what goes between them. -/
def bpP (f : Int64 → Bool) (es : List AE) (p : Nat) : Prop := p ≤ es.length ∧ (∀ i z, i < p → es[i]? = some z → f z.2.2 = true) ∧ ∀ i z, p ≤ i → es[i]? = some z → ¬ f z.2.2 = true
theorem ZP_le {es : List AE} (hZ : ZP es) {i j : Nat} {a b : AE} (hij : i ≤ j) (ha : es[i]? = some a) (hb : es[j]? = some b) : a.2.2 ≤ b.2.2 := by
  by_cases e : i = j
  · rw [e, hb] at ha; cases ha; exact Int64.le_refl _
  · obtain ⟨h1, g1⟩ := List.getElem?_eq_some_iff.mp ha
    obtain ⟨h2, g2⟩ := List.getElem?_eq_some_iff.mp hb
    have := (List.pairwise_iff_getElem.mp hZ i j h1 h2 (by omega)).1
    rw [g1, g2] at this
    rcases this with k | k
    · exact Int64.le_of_lt k
    · rw [k.1]; exact Int64.le_refl _
theorem zc_cut (T : Nat → AE → Bool) : ∀ (es : List AE) (k p q : Nat), q ≤ es.length → (∀ i z, es[i]? = some z → (T (k + i) z = true ↔ (p ≤ i ∧ i < q))) → zcE T k es = cutL es p (q - p) ∧ zcN T k es = q - p := by
  intro es
  induction es with
  | nil =>
    intro k p q hq h
    have hq : q ≤ 0 := hq
    refine ⟨?_, ?_⟩
    · show [] = cutL [] p (q - p)
      unfold cutL; rw [List.take_nil, List.drop_nil]; rfl
    · show 0 = q - p; omega
  | cons z r ih =>
    intro k p q hq h
    have hq : q ≤ r.length + 1 := hq
    have h0 := h 0 z rfl
    rw [Nat.add_zero] at h0
    have hr : ∀ i t, r[i]? = some t → (T (k + 1 + i) t = true ↔ (p ≤ i + 1 ∧ i + 1 < q)) := by
      intro i t ht
      have := h (i + 1) t ht
      rw [show k + 1 + i = k + (i + 1) by omega]; exact this
    by_cases c : T k z = true
    · have c2 := h0.mp c
      have e0 : p = 0 := by omega
      subst e0
      obtain ⟨i1, i2⟩ := ih (k + 1) 0 (q - 1) (by omega) (fun i t ht => by rw [hr i t ht]; omega)
      refine ⟨?_, ?_⟩
      · show (if T k z = true then zcE T (k + 1) r else z :: zcE T (k + 1) r) = _
        rw [if_pos c, i1]
        unfold cutL
        rw [List.take_zero, List.take_zero, List.nil_append, List.nil_append, show 0 + (q - 0) = (0 + (q - 1 - 0)) + 1 by omega, List.drop_succ_cons]
      · show (if T k z = true then 1 else 0) + zcN T (k + 1) r = _
        rw [if_pos c, i2]; omega
    · have c2 : ¬ (p ≤ 0 ∧ 0 < q) := fun z => c (h0.mpr z)
      by_cases e0 : p = 0
      · have e1 : q = 0 := by omega
        subst e0; subst e1
        obtain ⟨i1, i2⟩ := ih (k + 1) 0 0 (Nat.zero_le _) (fun i t ht => by rw [hr i t ht]; omega)
        refine ⟨?_, ?_⟩
        · show (if T k z = true then zcE T (k + 1) r else z :: zcE T (k + 1) r) = _
          rw [if_neg c, i1]; rfl
        · show (if T k z = true then 1 else 0) + zcN T (k + 1) r = _
          rw [if_neg c, i2]
      · obtain ⟨p', rfl⟩ : ∃ p', p = p' + 1 := ⟨p - 1, by omega⟩
        obtain ⟨i1, i2⟩ := ih (k + 1) p' (q - 1) (by omega) (fun i t ht => by rw [hr i t ht]; omega)
        refine ⟨?_, ?_⟩
        · show (if T k z = true then zcE T (k + 1) r else z :: zcE T (k + 1) r) = _
          rw [if_neg c, i1]
          unfold cutL
          rw [List.take_succ_cons, show p' + 1 + (q - (p' + 1)) = (p' + (q - 1 - p')) + 1 by omega, List.drop_succ_cons]; rfl
        · show (if T k z = true then 1 else 0) + zcN T (k + 1) r = _
          rw [if_neg c, i2]; omega
section KEDGE
variable {Y : Nat → MethodName × ByteArray} {d : Nat} {σ0 σ u : kS} {B ws nm nm' : List (List Int32)} {ks : List KC}
theorem k_edge_l (ty : kTY σ) {P Q : List KC} {x : KC} (w : KWd σ0 B σ ws nm (P ++ x :: Q)) (hso : x.2.2.2.2.2.2.1 = 4) (hZ : ZP x.2.2.2.2.2.2.2.2.2.2) {f : Int64 → Bool} (hmono : ∀ s t, s ≤ t → f t = true → f s = true) {n : Int64} (hn : σ.2.1 53 9 = n) (same : Bool) (hf : ∀ s, f s = true ↔ (s < n ∨ (same = true ∧ s = n))) (x2 x3 x4 x5 : Int32) (e5 : x5 = bI same) (K : kK)
    (hK : ∀ p x7 l8 l9, bpP f x.2.2.2.2.2.2.2.2.2.2 p → kjY kPP (kQQ Y) (d + 7) 250 68 [some (.ref 75), some (.ref x.1), some (.int x2), some (.int x3), some (.int x4), some (.int x5), some (.int (nI p)), some (.int x7), l8, l9, none] [] σ K) :
    ∀ (g lo hi : Nat) (x6 x7 : Int32) (l8 l9 : Option Value), x6 = nI lo → x7 = nI hi → hi - lo < g → lo ≤ hi → hi ≤ x.2.2.2.2.2.2.2.2.2.2.length → (∀ i z, i < lo → x.2.2.2.2.2.2.2.2.2.2[i]? = some z → f z.2.2 = true) → (∀ i z, hi ≤ i → x.2.2.2.2.2.2.2.2.2.2[i]? = some z → ¬ f z.2.2 = true) →
    kjY kPP (kQQ Y) (d + 7) 250 33 [some (.ref 75), some (.ref x.1), some (.int x2), some (.int x3), some (.int x4), some (.int x5), some (.int x6), some (.int x7), l8, l9, none] [] σ K := by
  obtain ⟨fr, vs, e0, q0, q1, q2, q3, fs, hR, hV, a1, ⟨b3, b4⟩, ⟨c1, c3, c0, c2, hp, hsp⟩, hd, s6, hn6, s4⟩ := w.o4 hso
  have kv : (σ.2.2.2.1 x.1).1 = 11 := by rw [hd]
  intro g
  induction g with
  | zero => intro lo hi x6 x7 l8 l9 _ _ hf; omega
  | succ g ih =>
    intro lo hi x6 x7 l8 l9 e6 e7 hg h1 h2 hl hh
    refine kjZ_y rfl rfl 3 _ _ _ _ ty ?_
    refine And.intro (fun c => ?_) (fun c => ?_)
    · have c : x7 ≤ x6 := c
      rw [e6, e7, nle (by omega) (by omega)] at c
      rw [e6]
      exact hK lo x7 l8 l9 ⟨by omega, hl, fun i z a b => hh i z (by omega) b⟩
    have c : ¬ x7 ≤ x6 := c
    rw [e6, e7, nle (by omega) (by omega)] at c
    have em : ((x6 + x7).toUInt32 >>> ((Int32.ofInt 1).toUInt32 &&& Int32.toUInt32 31)).toInt32 = nI ((lo + hi) / 2) := by rw [e6, e7, nI_add]; exact ushr1 (by omega)
    have hml : (lo + hi) / 2 < x.2.2.2.2.2.2.2.2.2.2.length := by omega
    have hz := List.getElem?_eq_getElem hml
    generalize x.2.2.2.2.2.2.2.2.2.2[(lo + hi) / 2] = z at hz
    have g3 : q3[(lo + hi) / 2]? = some z.2.2 := by rw [c3, List.getElem?_map, hz]; rfl
    have low : f z.2.2 = true → ∀ i t, i < (lo + hi) / 2 + 1 → x.2.2.2.2.2.2.2.2.2.2[i]? = some t → f t.2.2 = true := fun hb i t a b => hmono _ _ (ZP_le hZ (by omega) b hz) hb
    have high : ¬ f z.2.2 = true → ∀ i t, (lo + hi) / 2 ≤ i → x.2.2.2.2.2.2.2.2.2.2[i]? = some t → ¬ f t.2.2 = true := fun hb i t a b hc => hb (hmono _ _ (ZP_le hZ a hz b) hc)
    have s60 : ∀ n9 : Int64, f z.2.2 = true → kjY kPP (kQQ Y) (d + 7) 250 60 [some (.ref 75), some (.ref x.1), some (.int x2), some (.int x3), some (.int x4), some (.int x5), some (.int x6), some (.int x7), some (.int (nI ((lo + hi) / 2))), some (.long n9), none] [] σ K := by
      intro n9 hb
      refine kjZ_y rfl rfl 6 _ _ _ _ ty ?_
      refine (And.intro (Nat.le_of_ble_eq_true rfl) ?_)
      exact ih ((lo + hi) / 2 + 1) hi _ _ _ _ (nI_1 _) e7 (by omega) (by omega) h2 (low hb) hh
    have s65 : ∀ n9 : Int64, ¬ f z.2.2 = true → kjY kPP (kQQ Y) (d + 7) 250 65 [some (.ref 75), some (.ref x.1), some (.int x2), some (.int x3), some (.int x4), some (.int x5), some (.int x6), some (.int x7), some (.int (nI ((lo + hi) / 2))), some (.long n9), none] [] σ K := by
      intro n9 hb
      refine kjZ_y rfl rfl 3 _ _ _ _ ty ?_
      refine (And.intro (Nat.le_of_ble_eq_true rfl) ?_)
      exact ih lo ((lo + hi) / 2) _ _ _ _ e6 rfl (by omega) (by omega) (by omega) hl (high hb)
    have go : ∀ x8 : Int32, x8 = nI ((lo + hi) / 2) → kjY kPP (kQQ Y) (d + 7) 250 42 [some (.ref 75), some (.ref x.1), some (.int x2), some (.int x3), some (.int x4), some (.int x5), some (.int x6), some (.int x7), some (.int x8), l9, none] [] σ K := by
      intro x8 e8
      subst e8
      refine kjZ_y rfl rfl 3 _ _ _ _ ty ?_
      refine (And.intro (Nat.le_of_ble_eq_true rfl) (And.intro (Or.inl ⟨(Nat.le_of_ble_eq_true rfl), (by assumption)⟩) (And.intro (Nat.le_of_ble_eq_true rfl) (And.intro (Nat.le_of_ble_eq_true rfl) (kjY_mono ty (fun q_ u1 ty1 xu1 h_ => ?_) (k_vls ty hR a1 _))))))
      obtain ⟨rfl, y8, rfl, q8⟩ := h_
      intro _ _
      have e9 : y8 = z.2.2 := q8 _ q3 _ rfl (show (lo + hi) / 2 < x.2.2.2.2.2.2.2.2.2.2.length by omega) (show ¬ (4 : Nat) = 0 by decide) rfl g3
      subst e9
      have kv1 : (u1.2.2.2.1 x.1).1 = 11 := kv
      refine kjZ_y rfl rfl 1 _ _ _ _ ty1 ?_
      refine (And.intro (Nat.le_of_ble_eq_true rfl) ?_)
      refine kjZ_y rfl rfl 6 _ _ _ _ ty1 ?_
      refine (And.intro (ty1.k (by decide) rfl) (And.intro (ty1.k (by decide) rfl) (And.intro (fun c4 => ?_) (fun c4 => ?_))))
      · have c4 : z.2.2 < u1.2.1 53 9 := (lg_cmp_lt _ _).mp c4
        rw [hn] at c4
        exact s60 _ ((hf _).mpr (Or.inl c4))
      have c4 : ¬ z.2.2 < n := fun y => c4 ((lg_cmp_lt _ _).mpr (by show z.2.2 < u1.2.1 53 9; rw [hn]; exact y))
      refine kjZ_y rfl rfl 2 _ _ _ _ ty1 ?_
      refine And.intro (fun c5 => ?_) (fun c5 => ?_)
      · have hs : ¬ same = true := fun y => by
          have c5 : x5 = 0 := c5
          rw [e5, y] at c5; exact absurd c5 (by decide)
        exact s65 _ (fun y => ((hf _).mp y).elim c4 (fun y => hs y.1))
      have hs : same = true := by
        cases same
        · exact absurd e5 c5
        · rfl
      refine kjZ_y rfl rfl 6 _ _ _ _ ty1 ?_
      refine (And.intro (ty1.k (by decide) rfl) (And.intro (ty1.k (by decide) rfl) (And.intro (fun c6 => ?_) (fun c6 => ?_))))
      · have c6 : ¬ z.2.2 = n := fun y => c6 ((lg_cmp_eq _ _).mpr (by show z.2.2 = u1.2.1 53 9; rw [hn]; exact y))
        exact s65 _ (fun y => ((hf _).mp y).elim c4 (fun y => c6 y.2))
      · have c6 : z.2.2 = u1.2.1 53 9 := (lg_cmp_eq _ _).mp (Decidable.of_not_not c6)
        rw [hn] at c6
        exact s60 _ ((hf _).mpr (Or.inr ⟨hs, c6⟩))
    refine kjZ_y rfl rfl 6 _ _ _ _ ty ?_
    refine (And.intro (Nat.le_of_ble_eq_true rfl) ?_)
    exact go _ em
theorem kx_edge (ty : kTY σ) {P Q : List KC} {x : KC} (w : KWd σ0 B σ ws nm (P ++ x :: Q)) (hso : x.2.2.2.2.2.2.1 = 4) (hZ : ZP x.2.2.2.2.2.2.2.2.2.2) {i : Nat} {v : List Int32} (hv : ws[i]? = some v) (upper : Bool) (x2 x3 : Int32) (e2 : x2 = nI i) (e3 : x3 = bI upper) : kjY kPP (kQQ Y) (d + 8) 250 0 (mjL0 11 [.ref 75, .ref x.1, .int x2, .int x3]) [] σ (fun r u => KWd σ0 B u ws nm (P ++ x :: Q) ∧ SCl scZ σ u ∧ ∃ p, r = some (.int (nI p)) ∧ bpP (bnP v upper) x.2.2.2.2.2.2.2.2.2.2 p) := by
  have hs0 : ¬ x.2.2.2.2.2.2.1 = 0 := by rw [hso]; decide
  obtain ⟨z1, z2, kv⟩ := w.sz hs0
  have all0 : (∀ s, ¬ bnP v upper s = true) → bpP (bnP v upper) x.2.2.2.2.2.2.2.2.2.2 0 := fun h => ⟨Nat.zero_le _, fun i z a => absurd a (Nat.not_lt_zero _), fun i z _ _ => h _⟩
  have all1 : (∀ s, bnP v upper s = true) → bpP (bnP v upper) x.2.2.2.2.2.2.2.2.2.2 x.2.2.2.2.2.2.2.2.2.2.length := fun h => ⟨Nat.le_refl _, fun i z _ _ => h _, fun i z a b => absurd (List.getElem?_eq_some_iff.mp b).1 (by omega)⟩
  obtain ⟨x4, e4⟩ : ∃ x4, x4 = σ.1 x.1 6 := ⟨_, rfl⟩
  have e4' : x4 = nI x.2.2.2.2.2.2.2.2.2.2.length := e4.trans z1
  refine kjZ_y rfl rfl 5 _ _ _ _ ty ?_
  refine (And.intro (by assumption) (And.intro (Nat.le_of_ble_eq_true rfl) ?_))
  rw [← e4]
  refine kjZ_y rfl rfl 3 _ _ _ _ ty ?_
  refine (And.intro (Nat.le_of_ble_eq_true rfl) (And.intro (Or.inl ⟨(Nat.le_of_ble_eq_true rfl), (ty.k (by decide) rfl)⟩) (And.intro (Nat.le_of_ble_eq_true rfl) (And.intro (Nat.le_of_ble_eq_true rfl) (kjY_mono ty (fun q_ u1 ty1 xu1 h_ => ?_) (kx_readBound (d := d) ty w hv _ e2))))))
  have q1 := h_
  intro _ _
  obtain ⟨w1, s1, q1⟩ := q1
  have kv1 := (w1.sz hs0).2.2
  rcases q1 with ⟨j1, rfl, q8⟩ | ⟨j1, j2, rfl, q8⟩ | ⟨j1, j2, q8, ⟨n, hn, rfl, h9, h7⟩ | ⟨hn, rfl⟩⟩
  · refine kjZ_y rfl rfl 1 _ _ _ _ ty1 ?_
    refine And.intro (fun c => ?_) (fun c => ?_)
    · exact absurd (show (1 : Int32) = 0 from c) (by decide)
    refine kjZ_y rfl rfl 3 _ _ _ _ ty1 ?_
    refine (And.intro (ty1.k (by decide) rfl) (And.intro (fun c => ?_) (fun c => ?_)))
    · rw [q8] at c; exact absurd (show (-1 : Int32) = 0 from c) (by decide)
    refine kjZ_y rfl rfl 3 _ _ _ _ ty1 ?_
    refine (And.intro (ty1.k (by decide) rfl) (And.intro (fun c3 => ?_) (fun c3 => ?_)))
    rotate_left
    · refine absurd (show u1.1 75 8 ≤ 0 from ?_) c3
      rw [q8]; decide
    refine kjZ_y rfl rfl 2 _ _ _ _ ty1 ?_
    refine And.intro rfl (And.intro (Or.inl rfl) ?_)
    exact ⟨w1, s1, 0, rfl, all0 (fun s => by unfold bnP; rw [if_pos j1]; exact Bool.false_ne_true)⟩
  · refine kjZ_y rfl rfl 1 _ _ _ _ ty1 ?_
    refine And.intro (fun c => ?_) (fun c => ?_)
    · exact absurd (show (1 : Int32) = 0 from c) (by decide)
    refine kjZ_y rfl rfl 3 _ _ _ _ ty1 ?_
    refine (And.intro (ty1.k (by decide) rfl) (And.intro (fun c => ?_) (fun c => ?_)))
    · rw [q8] at c; exact absurd (show (1 : Int32) = 0 from c) (by decide)
    refine kjZ_y rfl rfl 3 _ _ _ _ ty1 ?_
    refine (And.intro (ty1.k (by decide) rfl) (And.intro (fun c3 => ?_) (fun c3 => ?_)))
    · have c3 : u1.1 75 8 ≤ 0 := c3
      rw [q8] at c3; exact absurd c3 (by decide)
    refine kjZ_y rfl rfl 3 _ _ _ _ ty1 ?_
    refine And.intro rfl (And.intro (Or.inl rfl) ?_)
    exact ⟨w1, s1, _, by rw [e4'], all1 (fun s => by unfold bnP; rw [if_neg j1, if_pos j2])⟩
  · refine kjZ_y rfl rfl 1 _ _ _ _ ty1 ?_
    refine And.intro (fun c => ?_) (fun c => ?_)
    · exact absurd (show (1 : Int32) = 0 from c) (by decide)
    refine kjZ_y rfl rfl 3 _ _ _ _ ty1 ?_
    refine (And.intro (ty1.k (by decide) rfl) (And.intro (fun c => ?_) (fun c => ?_)))
    rotate_left
    · exact absurd q8 c
    have go : ∀ (same : Bool) (x5 : Int32), x5 = bI same → (same = true ↔ ¬ upper = bdO v) → kjY kPP (kQQ Y) (d + 8) 250 29 [some (.ref 75), some (.ref x.1), some (.int x2), some (.int x3), some (.int x4), some (.int x5), none, none, none, none, none] [] u1 (fun r u => KWd σ0 B u ws nm (P ++ x :: Q) ∧ SCl scZ σ u ∧ ∃ p, r = some (.int (nI p)) ∧ bpP (bnP v upper) x.2.2.2.2.2.2.2.2.2.2 p) := by
      intro same x5 e5 hs
      refine kjZ_y rfl rfl 4 _ _ _ _ ty1 ?_
      refine (And.intro (Nat.le_of_ble_eq_true rfl) (And.intro (Nat.le_of_ble_eq_true rfl) ?_))
      refine k_edge_l (d := d + 1) ty1 w1 hso hZ (f := bnP v upper) (fun s t a b => bnP_mono a b) h9 same (fun s => by rw [bnP_num j1 j2 hn, hs]) x2 x3 x4 x5 e5 _ (fun p x7 l8 l9 hp => ?_) (x.2.2.2.2.2.2.2.2.2.2.length + 1) 0 x.2.2.2.2.2.2.2.2.2.2.length _ _ _ _ rfl e4' (by omega) (Nat.zero_le _) (Nat.le_refl _) (fun i z a => absurd a (Nat.not_lt_zero _)) (fun i z a b => absurd (List.getElem?_eq_some_iff.mp b).1 (by omega))
      refine kjZ_y rfl rfl 2 _ _ _ _ ty1 ?_
      refine And.intro rfl (And.intro (Or.inl rfl) ?_)
      exact ⟨w1, s1, p, rfl, hp⟩
    have hbi : ∀ a b : Bool, bI a = bI b ↔ a = b := by decide
    refine kjZ_y rfl rfl 4 _ _ _ _ ty1 ?_
    refine (And.intro (ty1.k (by decide) rfl) (And.intro (fun c3 => ?_) (fun c3 => ?_)))
    · have c3 : x3 = u1.1 75 7 := c3
      rw [e3, h7, hbi] at c3
      refine kjZ_y rfl rfl 2 _ _ _ _ ty1 ?_
      refine (And.intro (Nat.le_of_ble_eq_true rfl) ?_)
      exact go false _ rfl ⟨fun z => (by cases z), fun z => absurd c3 z⟩
    · have c3 : ¬ x3 = u1.1 75 7 := c3
      rw [e3, h7, hbi] at c3
      refine kjZ_y rfl rfl 3 _ _ _ _ ty1 ?_
      refine (And.intro (Nat.le_of_ble_eq_true rfl) ?_)
      exact go true _ rfl ⟨fun _ => c3, fun _ => rfl⟩
  · refine kjZ_y rfl rfl 1 _ _ _ _ ty1 ?_
    refine And.intro (fun c => ?_) (fun c => ?_)
    rotate_left
    · exact absurd rfl c
    refine kjZ_y rfl rfl 3 _ _ _ _ ty1 ?_
    refine (And.intro (ty1.k (by decide) rfl) (And.intro (fun c3 => ?_) (fun c3 => ?_)))
    rotate_left
    · refine absurd (show u1.1 75 8 ≤ 0 from ?_) c3
      rw [q8]; decide
    refine kjZ_y rfl rfl 2 _ _ _ _ ty1 ?_
    refine And.intro rfl (And.intro (Or.inl rfl) ?_)
    exact ⟨w1, s1, 0, rfl, all0 (fun s => by unfold bnP; rw [if_neg j1, if_neg j2, hn]; exact Bool.false_ne_true)⟩
theorem kx_edge0 (ty : kTY σ) (w : KWd σ0 B σ ws nm ks) {i : Nat} {v : List Int32} (hv : ws[i]? = some v) (x2 x3 : Int32) (e2 : x2 = nI i) : kjY kPP (kQQ Y) (d + 8) 250 0 (mjL0 11 [.ref 75, .null, .int x2, .int x3]) [] σ (fun r u => KWd σ0 B u ws nm ks ∧ SCl scZ σ u ∧ r = some (.int (Int32.ofInt 0))) := by
  refine kjZ_y rfl rfl 5 _ _ _ _ ty ?_
  refine (And.intro (Nat.le_of_ble_eq_true rfl) ?_)
  refine kjZ_y rfl rfl 3 _ _ _ _ ty ?_
  refine (And.intro (Nat.le_of_ble_eq_true rfl) (And.intro (Or.inl ⟨(Nat.le_of_ble_eq_true rfl), (ty.k (by decide) rfl)⟩) (And.intro (Nat.le_of_ble_eq_true rfl) (And.intro (Nat.le_of_ble_eq_true rfl) (kjY_mono ty (fun q_ u1 ty1 xu1 h_ => ?_) (kx_readBound (d := d) ty w hv _ e2))))))
  have q1 := h_
  intro _ _
  obtain ⟨w1, s1, q1⟩ := rb_o q1
  have s14 : kjY kPP (kQQ Y) (d + 8) 250 14 [some (.ref 75), some .null, some (.int x2), some (.int x3), some (.int (Int32.ofInt 0)), none, none, none, none, none, none] [] u1 (fun r u => KWd σ0 B u ws nm ks ∧ SCl scZ σ u ∧ r = some (.int (Int32.ofInt 0))) := by
    refine kjZ_y rfl rfl 3 _ _ _ _ ty1 ?_
    refine (And.intro (ty1.k (by decide) rfl) (And.intro (fun c3 => ?_) (fun c3 => ?_)))
    · refine kjZ_y rfl rfl 2 _ _ _ _ ty1 ?_
      refine And.intro rfl (And.intro (Or.inl rfl) ?_)
      exact ⟨w1, s1, rfl⟩
    · refine kjZ_y rfl rfl 3 _ _ _ _ ty1 ?_
      refine And.intro rfl (And.intro (Or.inl rfl) ?_)
      exact ⟨w1, s1, rfl⟩
  have go : ∀ x5 : Int32, kjY kPP (kQQ Y) (d + 8) 250 28 [some (.ref 75), some .null, some (.int x2), some (.int x3), some (.int (Int32.ofInt 0)), none, none, none, none, none, none] [.int x5] u1 (fun r u => KWd σ0 B u ws nm ks ∧ SCl scZ σ u ∧ r = some (.int (Int32.ofInt 0))) := by
    intro x5
    refine kjZ_y rfl rfl 5 _ _ _ _ ty1 ?_
    refine (And.intro (Nat.le_of_ble_eq_true rfl) (And.intro (Nat.le_of_ble_eq_true rfl) (And.intro (Nat.le_of_ble_eq_true rfl) ?_)))
    refine kjZ_y rfl rfl 3 _ _ _ _ ty1 ?_
    refine And.intro (fun c4 => ?_) (fun c4 => ?_)
    rotate_left
    · exact absurd (show Int32.ofInt 0 ≤ Int32.ofInt 0 by decide) c4
    refine kjZ_y rfl rfl 2 _ _ _ _ ty1 ?_
    refine And.intro rfl (And.intro (Or.inl rfl) ?_)
    exact ⟨w1, s1, rfl⟩
  rcases q1 with ⟨rfl, q1⟩ | ⟨rfl, q1⟩
  · refine kjZ_y rfl rfl 1 _ _ _ _ ty1 ?_
    refine And.intro (fun c => ?_) (fun c => ?_)
    · exact absurd (show (1 : Int32) = 0 from c) (by decide)
    refine kjZ_y rfl rfl 3 _ _ _ _ ty1 ?_
    refine (And.intro (ty1.k (by decide) rfl) (And.intro (fun c2 => ?_) (fun c2 => ?_)))
    rotate_left
    · exact s14
    refine kjZ_y rfl rfl 4 _ _ _ _ ty1 ?_
    refine (And.intro (ty1.k (by decide) rfl) (And.intro (fun c3 => ?_) (fun c3 => ?_)))
    · refine kjZ_y rfl rfl 1 _ _ _ _ ty1 ?_
      exact go _
    · refine kjZ_y rfl rfl 2 _ _ _ _ ty1 ?_
      exact go _
  · refine kjZ_y rfl rfl 1 _ _ _ _ ty1 ?_
    refine And.intro (fun c => ?_) (fun c => ?_)
    rotate_left
    · exact absurd rfl c
    exact s14
/-- nothing to go -/
theorem kx_rmLine0 (ty : kTY σ) (x1 x3 x4 : Int32) : kjY kPP (kQQ Y) d 254 0 (mjL0 6 [.ref 75, .int x1, .null, .int x3, .int x4]) [] σ (fun r z => r = none ∧ z = σ) := by
  refine kjZ_y rfl rfl 2 _ _ _ _ ty ?_
  refine kjZ_y rfl rfl 1 _ _ _ _ ty ?_
  refine And.intro rfl (And.intro rfl ?_)
  exact ⟨rfl, rfl⟩
theorem kx_rmLineN (ty : kTY σ) {P Q : List KC} {x : KC} (w : KWd σ0 B σ ws nm (P ++ x :: Q)) (hso : x.2.2.2.2.2.2.1 = 4) (x1 x3 x4 : Int32) (h : ¬ x3 < x4) : kjY kPP (kQQ Y) d 254 0 (mjL0 6 [.ref 75, .int x1, .ref x.1, .int x3, .int x4]) [] σ (fun r z => r = none ∧ z = σ) := by
  have hs0 : ¬ x.2.2.2.2.2.2.1 = 0 := by rw [hso]; decide
  have kv := (w.sz hs0).2.2
  refine kjZ_y rfl rfl 2 _ _ _ _ ty ?_
  refine kjZ_y rfl rfl 3 _ _ _ _ ty ?_
  refine And.intro (fun c => ?_) (fun c => ?_)
  · exact absurd c h
  refine kjZ_y rfl rfl 1 _ _ _ _ ty ?_
  refine And.intro rfl (And.intro rfl ?_)
  exact ⟨rfl, rfl⟩
end KEDGE
