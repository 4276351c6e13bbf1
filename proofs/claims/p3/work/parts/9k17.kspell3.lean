/-! Bytes: spell, head, digits, word, text, numberWord, line. -/
theorem decN_dgs : ∀ f m, m < 10 ^ (f + 1) → decN f m = dgs m ((decN f m).length - 1) ∧ 1 ≤ (decN f m).length := by
  intro f
  induction f with
  | zero =>
    intro m h
    refine ⟨?_, Nat.le_refl _⟩
    show [nI (48 + m % 10)] = [nI (48 + m / 1 % 10)]
    rw [Nat.div_one]
  | succ f ih =>
    intro m h
    have e : decN (f + 1) m = if m < 10 then [nI (48 + m)] else decN f (m / 10) ++ [nI (48 + m % 10)] := rfl
    by_cases c : m < 10
    · rw [e, if_pos c]
      refine ⟨?_, Nat.le_refl _⟩
      show [nI (48 + m)] = [nI (48 + m / 1 % 10)]
      rw [Nat.div_one, Nat.mod_eq_of_lt c]
    · obtain ⟨i1, i2⟩ := ih (m / 10) (by rw [Nat.pow_succ] at h; omega)
      rw [e, if_neg c, List.length_append]
      refine ⟨?_, by omega⟩
      show _ = dgs m ((decN f (m / 10)).length + 1 - 1)
      rw [show (decN f (m / 10)).length + 1 - 1 = (decN f (m / 10)).length - 1 + 1 by omega, dgs_s, ← i1]
section KSP3
variable {Y : Nat → MethodName × ByteArray} {d : Nat} {σ : kS}
theorem k_spell (ty : kTY σ) {b : Nat} (hb : b ∈ OWb) {r N : Nat} {l : List Int32} (h : BR σ b r N l) (v : Int64) (hN : l.length + (dec v).length ≤ N) (x3 : Int32) (e3 : x3 = nI (dec v).length) : kjY kPP (kQQ Y) d 56 0 (mjL0 7 [.ref b, .long v, .int x3]) [] σ (fun q u => q = none ∧ Wi b r σ u ∧ BR u b r N (l ++ dec v)) := by
  have hbr := br_ne ty hb h
  have h' := h
  obtain ⟨h1, h2, ⟨h3, h3'⟩, h4, h5, h6, h7⟩ := h
  have kb := ob_k ty hb
  obtain ⟨g1, g2⟩ := decN_dgs 19 (mg v) (Nat.lt_of_le_of_lt (mg_le v) (by decide))
  have hm19 : (decN 19 (mg v)).length ≤ 20 := decN_len 19 (mg v)
  have h0 : (0 : Int64).toInt = 0 := by decide
  have hdl : 1 ≤ (dec v).length ∧ (dec v).length ≤ 21 := ⟨by unfold dec; rw [List.length_append]; omega, dec_len v⟩
  have fin : ∀ u rest x6, kTY u → Wi b r σ u → u.1 b 2 = nI l.length → (∀ t, t < (dec v).length → u.1 r (l.length + t) = nI (48 + mg v / 10 ^ ((dec v).length - 1 - t) % 10)) → (∀ j, ¬ (l.length ≤ j ∧ j < l.length + (dec v).length) → u.1 r j = σ.1 r j) →
      kjY kPP (kQQ Y) d 56 42 [some (.ref b), some (.long v), none, some (.int x3), some (.long rest), none, some (.int x6)] [] u (fun q u => q = none ∧ Wi b r σ u ∧ BR u b r N (l ++ dec v)) := by
    intro u rest x6 tu wu su du ou
    have kb1 := ob_k tu hb
    have hF : u.2.2.1 b 1 = some r := by rw [show u.2.2.1 = σ.2.2.1 from congrArg (fun t => t.2.1) wu.1]; exact h1
    have hD : u.2.2.2.1 r = (21, N) := by rw [show u.2.2.2.1 = σ.2.2.2.1 from congrArg (fun t => t.2.2.1) wu.1]; exact h2
    have last : ∀ u2, kTY u2 → Wi b r σ u2 → u2.1 b 2 = nI l.length → wd (u2.1 r) l.length (dec v).length = dec v → (∀ j, j < l.length → u2.1 r j = σ.1 r j) → kjY kPP (kQQ Y) d 56 58 [some (.ref b), some (.long v), none, some (.int x3), some (.long rest), none, some (.int x6)] [] u2 (fun q u => q = none ∧ Wi b r σ u ∧ BR u b r N (l ++ dec v)) := by
      intro u2 t2 w2 s2 d2 o2
      have kb2 := ob_k t2 hb
      refine kjZ_y rfl rfl 7 _ _ _ _ t2 ?_
      refine (And.intro (by assumption) (And.intro (by assumption) (And.intro (Or.inl rfl) (fun t2' => And.intro rfl (And.intro rfl ?_)))))
      have wi : Wi b r σ (mjIu u2.1 b 2 (u2.1 b 2 + x3), u2.2) := ⟨w2.1, fun h y p1 p2 => by show mjIu u2.1 b 2 _ h y = _; rw [mjIu_at, if_neg p2]; exact w2.2 h y p1 p2⟩
      have er : ∀ j, (mjIu u2.1 b 2 (u2.1 b 2 + x3), u2.2).1 r j = u2.1 r j := fun j => by show mjIu u2.1 b 2 _ r j = _; rw [mjIu_at, if_neg (fun z => hbr z.1.symm)]
      refine ⟨rfl, wi, h'.put hbr wi hN ?_ (fun j hj => (er j).trans (o2 j hj)) ?_⟩
      · show mjIu u2.1 b 2 (u2.1 b 2 + x3) b 2 = _
        rw [mjIu_at, if_pos ⟨rfl, rfl⟩, s2, e3, nI_add]
      · refine Eq.trans (wd_congr fun k _ => er _) d2
    refine kjZ_y rfl rfl 4 _ _ _ _ tu ?_
    refine And.intro (fun c => ?_) (fun c => ?_)
    · have z : ¬ v < 0 := Int64.not_lt.mpr ((lg_cmp_ge _ _).mp c)
      have ed : dec v = decN 19 (mg v) := by unfold dec; rw [if_neg z]; rfl
      refine last u tu wu su ?_ (fun j hj => ou j (by omega))
      rw [ed] at du ⊢
      conv => rhs; rw [g1]
      unfold wd dgs
      rw [show (decN 19 (mg v)).length - 1 + 1 = (decN 19 (mg v)).length by omega]
      exact List.map_congr_left fun t ht => du t (List.mem_range.mp ht)
    · have z : v < 0 := Int64.not_le.mp (fun q => c ((lg_cmp_ge _ _).mpr q))
      have ed : dec v = 45 :: decN 19 (mg v) := by unfold dec; rw [if_pos z]; rfl
      have el : (dec v).length = (decN 19 (mg v)).length + 1 := by rw [ed]; rfl
      refine kjZ_y rfl rfl 6 _ _ _ _ tu ?_
      refine (And.intro (by assumption) (And.intro (by assumption) (Exists.intro _ (And.intro hF (Or.inl (And.intro (kdq hD) (And.intro (fun c2 => ?_) (fun c2 => ?_))))))))
      · refine absurd (show nI (u.2.2.2.1 r).2 ≤ u.1 b 2 from c2) ?_
        rw [hD, su]; exact nI_ge (by omega) (by omega)
      · have vi : vp_in (u.1 b 2) N := by rw [su]; exact vp_in_nI (by omega) (by omega)
        have ci : (u.1 b 2).toNatClampNeg = l.length := by rw [su]; exact nI_clamp (by omega)
        refine kjZ_y rfl rfl 6 _ _ _ _ tu ?_
        refine (And.intro (by assumption) (Exists.intro _ (And.intro hF (And.intro (by assumption) (And.intro ⟨(kdk hD), rfl⟩ (And.intro (kdv hD vi) (fun tu' => ?_)))))))
        have er : ∀ j, mjIu u.1 r (u.1 b 2).toNatClampNeg (Int8.ofInt 45).toInt32 r j = if j = l.length then 45 else u.1 r j := fun j => by
          rw [mjIu_at, ci]
          by_cases q : j = l.length
          · rw [if_pos ⟨rfl, q⟩, if_pos q]; rfl
          · rw [if_neg (fun w => q w.2), if_neg q]
        refine last _ tu' ⟨wu.1, fun h y p1 p2 => by show mjIu u.1 r _ _ h y = _; rw [mjIu_at, if_neg (fun w => p1 w.1)]; exact wu.2 h y p1 p2⟩ ?_ ?_ (fun j hj => ?_)
        · show mjIu u.1 r _ _ b 2 = _; rw [mjIu_at, if_neg (fun w => hbr w.1)]; exact su
        · rw [el, wd_s, ed]
          show mjIu u.1 r _ _ r l.length :: _ = _
          rw [er, if_pos rfl]
          refine congrArg (45 :: ·) ?_
          conv => rhs; rw [g1]
          unfold wd dgs
          rw [show (decN 19 (mg v)).length - 1 + 1 = (decN 19 (mg v)).length by omega]
          refine List.map_congr_left fun t ht => ?_
          have ht := List.mem_range.mp ht
          show mjIu u.1 r _ _ r (l.length + 1 + t) = _
          rw [er, if_neg (by omega), show l.length + 1 + t = l.length + (t + 1) by omega, du (t + 1) (by omega), el]
          congr 5; omega
        · show mjIu u.1 r _ _ r j = _
          rw [er, if_neg (by omega)]; exact ou j (by omega)
  have go : ∀ rest : Int64, rest.toInt ≤ 0 → mg rest = mg v → kjY kPP (kQQ Y) d 56 8 [some (.ref b), some (.long v), none, some (.int x3), none, none, none] [.long rest] σ (fun q u => q = none ∧ Wi b r σ u ∧ BR u b r N (l ++ dec v)) := by
    intro rest hr hm
    refine kjZ_y rfl rfl 8 _ _ _ _ ty ?_
    refine (And.intro (Nat.le_of_ble_eq_true rfl) (And.intro (by assumption) (And.intro (Nat.le_of_ble_eq_true rfl) ?_)))
    refine k_spell_l _ v hb h3' hN x3 hbr (dec v).length σ rest _ ty (Nat.le_refl _) h1 h2 h5 ?_ hr ?_ (fun u rest x6 tu wu su du ou => fin u rest x6 tu wu su du ou)
    · show σ.1 b 2 + x3 - Int32.ofInt 1 = _
      rw [h5, e3, nI_add]; rfl
    · rw [Nat.sub_self, Nat.pow_zero, Nat.div_one]; exact hm
  refine kjZ_y rfl rfl 4 _ _ _ _ ty ?_
  refine And.intro (fun c => ?_) (fun c => ?_)
  · have z : ¬ v < 0 := Int64.not_lt.mpr ((lg_cmp_ge _ _).mp c)
    have z2 : 0 ≤ v.toInt := by
      have := Int64.le_iff_toInt_le.mp (Int64.not_lt.mp z); rw [h0] at this; exact this
    have hv := v.toInt_lt
    have en : (-v).toInt = -v.toInt := by rw [Int64.toInt_neg, Int.bmod_eq_of_le (by omega) (by omega)]
    refine kjZ_y rfl rfl 2 _ _ _ _ ty ?_
    exact go (-v) (by rw [en]; omega) (by unfold mg; rw [en]; omega)
  · have z : v < 0 := Int64.not_le.mp (fun q => c ((lg_cmp_ge _ _).mpr q))
    have z2 := Int64.lt_iff_toInt_lt.mp z
    rw [h0] at z2
    refine kjZ_y rfl rfl 2 _ _ _ _ ty ?_
    exact go v (by omega) rfl
end KSP3
