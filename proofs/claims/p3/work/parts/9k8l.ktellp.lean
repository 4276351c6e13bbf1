/-! A part of a key, whole. -/
theorem nm_tb : nm 38 = tb 12 ∧ nm 52 = tb 13 ∧ nm 64 = tb 14 ∧ nm 78 = tb 15 ∧ nm 2 = tb 9 ∧ nm 33 = tb 6 ∧ nm 22 = tb 7 := by decide +kernel
theorem tlE_len (s : Int32) (c : List AE) : (c.flatMap (tlE s)).length = eaS s * c.length := by
  have h : ∀ z, (tlE s z).length = eaS s := fun z => by
    unfold tlE eaS
    by_cases c4 : s = 4
    · rw [if_pos c4, if_pos (Or.inl c4)]; rfl
    · rw [if_neg c4]
      by_cases c2 : s = 2
      · rw [if_pos c2, if_pos (Or.inr c2)]; rfl
      · rw [if_neg c2, if_neg (fun w => w.elim c4 c2)]; rfl
  induction c with
  | nil => rfl
  | cons z r ih => rw [List.flatMap_cons, List.length_append, ih, h, List.length_cons, Nat.mul_succ]; omega
section KTELLP
variable {Y : Nat → MethodName × ByteArray} {d : Nat} {σ u : kS} {B ws nmm nmm' : List (List Int32)} {ks ks' : List KC}
theorem g_headN (ty : kTY σ) (g : KG B σ nmm ks) {b : Nat} (hb : b ∈ [5, 7]) {l : List Int32} (j : kBY σ b l ∧ σ.1 b 3 = 0) {n : Nat} (hn : n ≤ 1024) (hl : l.length + (hdN n).length ≤ 210000) (x : Int32) (ex : x = nI n) : kjY kPP (kQQ Y) (d + 5) 60 0 (mjL0 2 [.ref b, .int x]) [] σ (gjP B b σ nmm ks (l ++ hdN n)) := by
  obtain ⟨b1, -⟩ := J_ok b hb
  refine kjY_mono ty (fun r z _ _ h => g.gj ty hb j.2 h hl) (k_rowHead ty g.1.1 b1 j.1 x ex (by omega) (opQ_j hb g.1.2 l ?_))
  have : (hdN n).length = (dec (lN n)).length + 3 := by unfold hdN; rw [List.length_append, List.length_cons]; rfl
  omega
theorem kG_tellPart (ty : kTY σ) {P Q : List KC} {y : KC} (g : KG B σ nmm (P ++ y :: Q)) {b : Nat} (hb : b ∈ [5, 7]) (h11 : σ.2.2.1 0 11 = some b) {k : Nat} (hk : k = 1 ∨ k = 2 ∨ k = 3 ∨ k = 4) (hs : y.2.2.2.2.2.2.1 = nI k) {l : List Int32} (j : kBY σ b l ∧ σ.1 b 3 = 0) {i : Nat} {c : List AE} (hc : ∀ j z, c[j]? = some z → y.2.2.2.2.2.2.2.2.2.2[i + j]? = some z) (hcl : eaS (nI k) * c.length ≤ 1000) (hN : i + c.length ≤ 131072) (x1 x3 x4 : Int32) (e1 : x1 = nI y.2.1) (e3 : x3 = nI i) (e4 : x4 = nI (i + c.length)) (hl : (l ++ encR (rqE (nI k) y.2.2.2.2.2.1 c)).length ≤ 210000) :
    kjY kPP (kQQ Y) (d + 7) 35 0 (mjL0 7 [.ref 0, .int x1, .ref y.1, .int x3, .int x4]) [] σ (gjP B b σ nmm (P ++ y :: Q) (l ++ encR (rqE (nI k) y.2.2.2.2.2.1 c))) := by
  obtain ⟨b1, b2, b3, b4, b5⟩ := J_ok b hb
  have n11 : ∀ b ∈ [5, 7], ¬ (0, 11) ∈ jnF b := by decide
  obtain ⟨y1, -, y3⟩ := g.at_
  have kv : (σ.2.2.2.1 y.1).1 = 11 := by rw [y1]
  have ek := (g.kd (by omega) hs).1
  have kb := ob_k ty b1
  have tr : ∀ {v w : kS}, Ch false (jnF b) [(b, 1)] σ v → Ch false (jnF b) [(b, 1)] v w → Ch false (jnF b) [(b, 1)] σ w := fun h1 h2 => Ch.tr ty (fun q hq => by rw [List.mem_singleton.mp hq]; exact ow_b b1) h1 h2
  have hea : eaS (nI k) = if k = 2 ∨ k = 4 then 2 else 1 := by
    rcases hk with z | z | z | z <;> rw [z] <;> decide
  have hql : (rqE (nI k) y.2.2.2.2.2.1 c).length = 2 + eaS (nI k) * c.length := by
    unfold rqE; rw [List.length_cons, List.length_cons, tlE_len]; omega
  have eL : l ++ encR (rqE (nI k) y.2.2.2.2.2.1 c) = l ++ hdN (2 + eaS (nI k) * c.length) ++ wordL (nm (idS (nI k))) ++ wordL y.2.2.2.2.2.1 ++ wordsL (c.flatMap (tlE (nI k))) := by
    rw [encR_hd, hql]
    unfold rqE
    rw [wdsL_cons, wdsL_cons]; simp only [List.append_assoc]
  rw [eL] at hl ⊢
  have hl2 := hl
  rw [List.length_append, List.length_append, List.length_append, List.length_append] at hl2
  -- behind the name of the command
  have nam : ∀ (i0 : Nat) (x5 : Int32) (v : kS), i0 < 185 → nm (idS (nI k)) = tb i0 → kTY v → KG B v nmm (P ++ y :: Q) → (kBY v b (l ++ hdN (2 + eaS (nI k) * c.length)) ∧ v.1 b 3 = 0) → Ch false (jnF b) [(b, 1)] σ v → kjY kPP (kQQ Y) (d + 7) 35 47 [some (.ref 0), some (.int x1), some (.ref y.1), some (.int x3), some (.int x4), some (.int x5), none] [.ref (2000000 + i0), .ref b] v (gjP B b σ nmm (P ++ y :: Q) (l ++ hdN (2 + eaS (nI k) * c.length) ++ wordL (nm (idS (nI k))) ++ wordL y.2.2.2.2.2.1 ++ wordsL (c.flatMap (tlE (nI k))))) := by
    intro i0 x5 v hi0 et tv gv jv cv
    have kbv := ob_k tv b1
    rw [et] at hl hl2 ⊢
    refine kjZ_y rfl rfl 1 _ _ _ _ tv ?_
    refine (And.intro (Nat.le_of_ble_eq_true rfl) (And.intro (Or.inl ⟨(Nat.le_of_ble_eq_true rfl), (by assumption)⟩) (And.intro (Nat.le_of_ble_eq_true rfl) (And.intro (Nat.le_of_ble_eq_true rfl) (kjY_mono tv (fun q_ v1 tv1 xv1 h_ => ?_) (g_text (d := d) tv gv hb jv hi0 (by rw [List.length_append]; omega)))))))
    obtain ⟨rfl, g1, j1, c1⟩ := h_
    intro _ _
    have cv1 := tr cv c1
    have f11 : v1.2.2.1 0 11 = some b := by rw [(cv1.fld ty (h := 0) (x := 11) (c := 9) (by decide) rfl (by decide) (n11 b hb)).2.2]; exact h11
    have kb1 := ob_k tv1 b1
    refine kjZ_y rfl rfl 6 _ _ _ _ tv1 ?_
    refine (And.intro (tv1.k (by decide) rfl) (And.intro (tv1.k (by decide) rfl) (Exists.intro _ (And.intro f11 (And.intro (Nat.le_of_ble_eq_true rfl) (And.intro (Or.inl ⟨(Nat.le_of_ble_eq_true rfl), (tv1.k (by decide) rfl)⟩) (And.intro (Nat.le_of_ble_eq_true rfl) (And.intro (Nat.le_of_ble_eq_true rfl) (kjY_mono tv1 (fun q_ v2 tv2 xv2 h_ => ?_) (g_word (d := d + 1) tv1 g1 hb j1 y3 _ e1 (by rw [List.length_append, List.length_append]; omega)))))))))))
    obtain ⟨rfl, g2, j2, c2⟩ := h_
    intro _ _
    refine kjZ_y rfl rfl 2 _ _ _ _ tv2 ?_
    refine (And.intro (Nat.le_of_ble_eq_true rfl) ?_)
    exact kG_tell_l hb ty h11 hk hs hN x1 x3 x4 x5 e4 c i _ _ v2 rfl hc e3 tv2 g2 j2 (tr cv1 c2) hl
  -- behind the head
  have go2 : ∀ m x5 : Int32, m = nI (eaS (nI k)) → kjY kPP (kQQ Y) (d + 7) 35 20 [some (.ref 0), some (.int x1), some (.ref y.1), some (.int x3), some (.int x4), some (.int x5), none] [.int m, .int (Int32.ofInt 2), .ref b] σ (gjP B b σ nmm (P ++ y :: Q) (l ++ hdN (2 + eaS (nI k) * c.length) ++ wordL (nm (idS (nI k))) ++ wordL y.2.2.2.2.2.1 ++ wordsL (c.flatMap (tlE (nI k))))) := by
    intro m x5 em
    have ex : Int32.ofInt 2 + m * (x4 - x3) = nI (2 + eaS (nI k) * c.length) := by
      rw [em, e4, e3, pk_sub (by omega), pk_mul, show i + c.length - i = c.length by omega]; exact nI_add 2 _
    refine kjZ_y rfl rfl 6 _ _ _ _ ty ?_
    refine (And.intro (Nat.le_of_ble_eq_true rfl) (And.intro (Or.inl ⟨(Nat.le_of_ble_eq_true rfl), (by assumption)⟩) (And.intro (Nat.le_of_ble_eq_true rfl) (And.intro (Nat.le_of_ble_eq_true rfl) (kjY_mono ty (fun q_ v tv xv h_ => ?_) (g_headN (d := d + 1) ty g hb j (by omega) (by omega) _ ex))))))
    obtain ⟨rfl, gv, jv, cv⟩ := h_
    intro _ _
    have kvv : (v.2.2.2.1 y.1).1 = 11 := xv.k ty kv (by decide)
    have ekv := (gv.kd (by omega) hs).1
    have f11 : v.2.2.1 0 11 = some b := by rw [(cv.fld ty (h := 0) (x := 11) (c := 9) (by decide) rfl (by decide) (n11 b hb)).2.2]; exact h11
    have ne : ∀ a : Nat, a ≤ 4 → ¬ k = a → ¬ v.1 y.1 1 = nI a := fun a ha z w => z ((nI_eq (by omega) (by omega)).mp (ekv.symm.trans w))
    obtain ⟨t1, t2, t3, t4, -⟩ := nm_tb
    rcases hk with z | z | z | z
    · refine kjZ_y rfl rfl 6 _ _ _ _ tv ?_
      refine (And.intro (tv.k (by decide) rfl) (Exists.intro _ (And.intro f11 (And.intro (by assumption) (And.intro (fun q => ?_) (fun q => ?_))))))
      · exact absurd (show v.1 y.1 1 = Int32.ofInt 1 by rw [ekv, z]; rfl) q
      refine kjZ_y rfl rfl 2 _ _ _ _ tv ?_
      refine (And.intro rfl ?_)
      exact nam 12 x5 v (by decide) (by rw [z]; exact t1) tv gv jv cv
    · refine kjZ_y rfl rfl 6 _ _ _ _ tv ?_
      refine (And.intro (tv.k (by decide) rfl) (Exists.intro _ (And.intro f11 (And.intro (by assumption) (And.intro (fun q => ?_) (fun q => ?_))))))
      rotate_left
      · exact absurd (Decidable.not_not.mp q) (ne 1 (by decide) (by omega))
      refine kjZ_y rfl rfl 4 _ _ _ _ tv ?_
      refine (And.intro (by assumption) (And.intro (fun q2 => ?_) (fun q2 => ?_)))
      · exact absurd (show v.1 y.1 1 = Int32.ofInt 2 by rw [ekv, z]; rfl) q2
      refine kjZ_y rfl rfl 2 _ _ _ _ tv ?_
      refine (And.intro rfl ?_)
      exact nam 13 x5 v (by decide) (by rw [z]; exact t2) tv gv jv cv
    · refine kjZ_y rfl rfl 6 _ _ _ _ tv ?_
      refine (And.intro (tv.k (by decide) rfl) (Exists.intro _ (And.intro f11 (And.intro (by assumption) (And.intro (fun q => ?_) (fun q => ?_))))))
      rotate_left
      · exact absurd (Decidable.not_not.mp q) (ne 1 (by decide) (by omega))
      refine kjZ_y rfl rfl 4 _ _ _ _ tv ?_
      refine (And.intro (by assumption) (And.intro (fun q2 => ?_) (fun q2 => ?_)))
      rotate_left
      · exact absurd (Decidable.not_not.mp q2) (ne 2 (by decide) (by omega))
      refine kjZ_y rfl rfl 4 _ _ _ _ tv ?_
      refine (And.intro (by assumption) (And.intro (fun q3 => ?_) (fun q3 => ?_)))
      · exact absurd (show v.1 y.1 1 = Int32.ofInt 3 by rw [ekv, z]; rfl) q3
      refine kjZ_y rfl rfl 2 _ _ _ _ tv ?_
      refine (And.intro rfl ?_)
      exact nam 14 x5 v (by decide) (by rw [z]; exact t3) tv gv jv cv
    · refine kjZ_y rfl rfl 6 _ _ _ _ tv ?_
      refine (And.intro (tv.k (by decide) rfl) (Exists.intro _ (And.intro f11 (And.intro (by assumption) (And.intro (fun q => ?_) (fun q => ?_))))))
      rotate_left
      · exact absurd (Decidable.not_not.mp q) (ne 1 (by decide) (by omega))
      refine kjZ_y rfl rfl 4 _ _ _ _ tv ?_
      refine (And.intro (by assumption) (And.intro (fun q2 => ?_) (fun q2 => ?_)))
      rotate_left
      · exact absurd (Decidable.not_not.mp q2) (ne 2 (by decide) (by omega))
      refine kjZ_y rfl rfl 4 _ _ _ _ tv ?_
      refine (And.intro (by assumption) (And.intro (fun q3 => ?_) (fun q3 => ?_)))
      rotate_left
      · exact absurd (Decidable.not_not.mp q3) (ne 3 (by decide) (by omega))
      refine kjZ_y rfl rfl 1 _ _ _ _ tv ?_
      refine (And.intro rfl ?_)
      exact nam 15 x5 v (by decide) (by rw [z]; exact t4) tv gv jv cv
  have go1 : ∀ v : Int32, v = (if k = 2 ∨ k = 4 then 1 else 0) → kjY kPP (kQQ Y) (d + 7) 35 11 [some (.ref 0), some (.int x1), some (.ref y.1), some (.int x3), some (.int x4), none, none] [.int v] σ (gjP B b σ nmm (P ++ y :: Q) (l ++ hdN (2 + eaS (nI k) * c.length) ++ wordL (nm (idS (nI k))) ++ wordL y.2.2.2.2.2.1 ++ wordsL (c.flatMap (tlE (nI k))))) := by
    intro v hv
    refine kjZ_y rfl rfl 6 _ _ _ _ ty ?_
    refine (And.intro (Nat.le_of_ble_eq_true rfl) (And.intro (ty.k (by decide) rfl) (Exists.intro _ (And.intro h11 (And.intro (fun q => ?_) (fun q => ?_))))))
    · have q : v = 0 := q
      refine kjZ_y rfl rfl 1 _ _ _ _ ty ?_
      refine go2 _ v ?_
      rw [hea, if_neg (fun w => by rw [if_pos w] at hv; rw [hv] at q; exact absurd q (by decide))]; rfl
    · have q : ¬ v = 0 := q
      refine kjZ_y rfl rfl 2 _ _ _ _ ty ?_
      refine go2 _ v ?_
      have w : k = 2 ∨ k = 4 := Decidable.byContradiction (fun w => q (by rw [hv, if_neg w]))
      rw [hea, if_pos w]; rfl
  by_cases k2 : k = 2
  · refine kjZ_y rfl rfl 4 _ _ _ _ ty ?_
    refine (And.intro (by assumption) (And.intro (fun q => ?_) (fun q => ?_)))
    rotate_left
    · exact absurd (show σ.1 y.1 1 = Int32.ofInt 2 by rw [ek, k2]; rfl) q
    refine kjZ_y rfl rfl 2 _ _ _ _ ty ?_
    exact go1 _ (by rw [if_pos (Or.inl k2)]; rfl)
  · refine kjZ_y rfl rfl 4 _ _ _ _ ty ?_
    refine (And.intro (by assumption) (And.intro (fun q => ?_) (fun q => ?_)))
    · refine absurd ((nI_eq (a := k) (b := 2) (by omega) (by decide)).mp (ek.symm.trans (show σ.1 y.1 1 = Int32.ofInt 2 from q))) k2
    by_cases k4 : k = 4
    · refine kjZ_y rfl rfl 4 _ _ _ _ ty ?_
      refine (And.intro (by assumption) (And.intro (fun q2 => ?_) (fun q2 => ?_)))
      · exact absurd (show σ.1 y.1 1 = Int32.ofInt 4 by rw [ek, k4]; rfl) q2
      refine kjZ_y rfl rfl 2 _ _ _ _ ty ?_
      exact go1 _ (by rw [if_pos (Or.inr k4)]; rfl)
    · refine kjZ_y rfl rfl 4 _ _ _ _ ty ?_
      refine (And.intro (by assumption) (And.intro (fun q2 => ?_) (fun q2 => ?_)))
      rotate_left
      · refine absurd ((nI_eq (a := k) (b := 4) (by omega) (by decide)).mp (ek.symm.trans (show σ.1 y.1 1 = Int32.ofInt 4 from Decidable.not_not.mp q2))) k4
      refine kjZ_y rfl rfl 1 _ _ _ _ ty ?_
      exact go1 _ (by rw [if_neg (fun w => w.elim k2 k4)]; rfl)
end KTELLP
