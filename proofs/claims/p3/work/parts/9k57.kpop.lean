/-! LPOP, RPOP, LTRIM. -/
theorem popE_42 {α : Type} : ∀ (j : Nat) (es : List α), popE 42 j es = es.take (es.length - j) := by
  intro j
  induction j with
  | zero => intro es; rw [Nat.sub_zero, List.take_length]; rfl
  | succ j ih =>
    intro es
    show popE 42 j es.dropLast = _
    rw [ih, List.length_dropLast, List.dropLast_eq_take, List.take_take]
    congr 1; omega
theorem popE_no {α : Type} {i : Nat} (hi : ¬ i = 42) : ∀ (j : Nat) (es : List α), popE i j es = es.drop j := by
  intro j
  induction j with
  | zero => intro es; rfl
  | succ j ih =>
    intro es
    show popE i j (if i = 42 then es.dropLast else es.tail) = _
    rw [if_neg hi, ih, List.drop_tail]
section KPOP
variable {Y : Nat → MethodName × ByteArray} {d : Nat} {σ0 σ u : kS} {B ws nm nm' : List (List Int32)} {ks : List KC}
theorem stl_k {P Q : List KC} {x : KC} (g : List AE → List AE) (h : ¬ x.2.2.2.2.2.2.1 = 0) : (emB (mkK x (esF g x.2.2.2.2.2)) → skA (P ++ Q) = stlA (skA (P ++ x :: Q)) P.length g) ∧ (¬ emB (mkK x (esF g x.2.2.2.2.2)) → skA (P ++ mkK x (esF g x.2.2.2.2.2) :: Q) = stlA (skA (P ++ x :: Q)) P.length g) := by
  have e0 : (skA (P ++ x :: Q))[P.length]? = some x.2.2.2.2.2 := by
    rw [skA_app, skA_cons, List.getElem?_append_right (by rw [skA_len]; exact Nat.le_refl _), skA_len, Nat.sub_self]; rfl
  unfold stlA; rw [e0]
  refine ⟨fun z => ?_, fun z => ?_⟩
  · show _ = if g x.2.2.2.2.2.2.2.2.2.2 = [] then _ else _
    rw [if_pos (show g x.2.2.2.2.2.2.2.2.2.2 = [] from z.2), skA_app, skA_app, skA_cons, ← skA_len P, rmA_at]
  · show _ = if g x.2.2.2.2.2.2.2.2.2.2 = [] then _ else _
    rw [if_neg (fun y : g x.2.2.2.2.2.2.2.2.2.2 = [] => z ⟨h, y⟩), skA_app, skA_app, skA_cons, skA_cons, ← skA_len P, upA_at]; rfl
theorem kx_vat (ty : kTY σ) {P Q : List KC} {x : KC} (w : KWd σ0 B σ ws nm (P ++ x :: Q)) (x1 : Int32) : kjY kPP (kQQ Y) d 115 0 (mjL0 3 [.ref x.1, .int x1]) [] σ (fun v u => u = σ ∧ ∃ y : Int32, v = some (.int y) ∧ (x.2.2.2.2.2.2.1 = 1 ∨ x.2.2.2.2.2.2.1 = 3 → ∀ i z, x1 = nI i → x.2.2.2.2.2.2.2.2.2.2[i]? = some z → ∃ km, y = nI km ∧ nm[km]? = some z.1)) := by
  obtain ⟨fr, vs, k, n, e, t, cs, hR, -, a1, hav, hd, -, h6, hn, -⟩ := w.op_
  refine kjY_mono ty (fun v u tu xu h => ?_) (k_vat ty hR a1 x1)
  obtain ⟨hu, y, hy, q⟩ := h
  refine ⟨hu, y, hy, fun hs i z ei hz => ?_⟩
  obtain ⟨b1, b2, b3, b4, b5, b6⟩ := hav
  have b1 : x.2.2.2.2.2.2.1 = nI k := b1
  have b2 : k ≤ 4 := b2
  have hk : k = 1 ∨ k = 3 := by
    rcases hs with z | z
    · exact Or.inl ((nI_eq (a := 1) (by decide) (by omega)).mp (z.symm.trans b1)).symm
    · exact Or.inr ((nI_eq (a := 3) (by decide) (by omega)).mp (z.symm.trans b1)).symm
  have hk0 : ¬ k = 0 := by omega
  obtain ⟨q0, hq0, hid⟩ := b6.2.1 hk
  have hq0 : cs = [q0] := hq0
  have b5 : n = if k = 0 then x.2.2.2.2.2.2.2.2.2.1.length else x.2.2.2.2.2.2.2.2.2.2.length := b5
  rw [if_neg hk0] at b5
  have hil := (List.getElem?_eq_some_iff.mp hz).1
  obtain ⟨km, g1, g2⟩ := hid.2 i z.1 (by show (x.2.2.2.2.2.2.2.2.2.2.map (fun z => z.1))[i]? = _; rw [List.getElem?_map, hz]; rfl)
  refine ⟨km, ?_, g2⟩
  rw [q i q0 _ ei (by show i < n; omega) hk0 (by show cs[0]? = _; rw [hq0]; rfl) g1]; exact i64_32 km
theorem k_pop_l (K : kK) {P Q : List KC} {x : KC} {n m : Nat} (hn : n < 2 ^ 29) (x1 x2 x3 x5 : Int32) (e5 : x5 = nI m) (hm : m ≤ n)
    (hK : ∀ u x6, kTY u → KWd σ0 B u ws nm (P ++ x :: Q) → SCl scA σ u → kjY kPP (kQQ Y) (d + 6) 192 104 [some (.ref 70), some (.int x1), some (.int x2), some (.int x3), some (.ref x.1), some (.int x5), some (.int x6)] [] u K) (hs : ¬ x.2.2.2.2.2.2.1 = 0) :
    ∀ (f i : Nat) (x6 : Int32) (u : kS), i + f = m → x6 = nI i → kTY u → KWd σ0 B u ws nm (P ++ x :: Q) → SCl scA σ u →
    kjY kPP (kQQ Y) (d + 6) 192 81 [some (.ref 70), some (.int x1), some (.int x2), some (.int x3), some (.ref x.1), some (.int x5), some (.int x6)] [] u K := by
  intro f
  induction f with
  | zero =>
    intro i x6 u hi e6 tu wu su
    obtain ⟨z1, z2, kv⟩ := wu.sz hs
    refine kjZ_y rfl rfl 3 _ _ _ _ tu ?_
    refine And.intro (fun c => ?_) (fun c => ?_)
    · exact hK u x6 tu wu su
    · refine absurd (show x5 ≤ x6 from ?_) c
      rw [e5, e6, nle (by omega) (by omega)]; omega
  | succ f ih =>
    intro i x6 u hi e6 tu wu su
    obtain ⟨z1, z2, kv⟩ := wu.sz hs
    refine kjZ_y rfl rfl 3 _ _ _ _ tu ?_
    refine And.intro (fun c => ?_) (fun c => ?_)
    · refine absurd (show x5 ≤ x6 from c) ?_
      rw [e5, e6, nle (by omega) (by omega)]; omega
    obtain ⟨b, hb, eb⟩ := wu.2.2.2.2.2.2.1
    have kb := ob_k tu (ANn_b b (ANb_n b hb)).1
    have go : ∀ xi : Int32, kjY kPP (kQQ Y) (d + 6) 192 97 [some (.ref 70), some (.int x1), some (.int x2), some (.int x3), some (.ref x.1), some (.int x5), some (.int x6)] [.int xi, .ref x.1, .ref 48] u K := by
      intro xi
      refine kjZ_y rfl rfl 1 _ _ _ _ tu ?_
      refine (And.intro (Nat.le_of_ble_eq_true rfl) (And.intro (Or.inl ⟨(Nat.le_of_ble_eq_true rfl), (by assumption)⟩) (And.intro (Nat.le_of_ble_eq_true rfl) (And.intro (Nat.le_of_ble_eq_true rfl) (kjY_mono tu (fun q_ u1 ty1 xu1 h_ => ?_) (kx_vat tu wu xi))))))
      obtain ⟨rfl, y, rfl, -⟩ := h_
      intro _ _
      refine kjZ_y rfl rfl 4 _ _ _ _ ty1 ?_
      refine (And.intro (ty1.k (by decide) rfl) (And.intro (ty1.k (by decide) rfl) (Exists.intro _ (And.intro eb (And.intro (Nat.le_of_ble_eq_true rfl) (And.intro (Or.inl ⟨(Nat.le_of_ble_eq_true rfl), (ty1.k (by decide) rfl)⟩) (And.intro (Nat.le_of_ble_eq_true rfl) (And.intro (Nat.le_of_ble_eq_true rfl) (kjY_mono ty1 (fun q_ u2 ty2 xu2 h_ => ?_) (kx_copyWord ty1 wu hb _))))))))))
      obtain ⟨rfl, w2, s2⟩ := h_
      intro _ _
      have kv2 : (u2.2.2.2.1 x.1).1 = 11 := xu2.k ty1 kv (by decide)
      refine kjZ_y rfl rfl 2 _ _ _ _ ty2 ?_
      exact ih (i + 1) _ u2 (by omega) (by rw [e6]; exact nI_1 i) ty2 w2 (su.tr s2)
    refine kjZ_y rfl rfl 5 _ _ _ _ tu ?_
    refine (And.intro (tu.k (by decide) rfl) (And.intro (fun c2 => ?_) (fun c2 => ?_)))
    · refine kjZ_y rfl rfl 6 _ _ _ _ tu ?_
      refine (And.intro (by assumption) ?_)
      exact go _
    · refine kjZ_y rfl rfl 2 _ _ _ _ tu ?_
      exact go _
/-- the number of words that go -/
def poN (ws : List (List Int32)) : Option Int64 := if 2 < ws.length then intF (ws.getD 2 []) else some 1
theorem kx_pop (ty : kTY σ) (w : KWd σ0 B σ ws nm ks) (hr : RSD ks) (hB : BOK B ws) {j : Nat} (hj : CMD σ j) {v : List Int32} (hv : ws[1]? = some v) (i1 : Nat) (hi1 : i1 = 41 ∨ i1 = 42) (x1 : Int32) (e1 : x1 = if i1 = 42 then 0 else 1) {o : Option (List AK)} (ho0 : poN ws = none → o = none) (ho1 : ∀ z, poN ws = some z → z < 0 → o = none) (ho2 : rfZ (σ.1 59 17) ks j v 1 → o = none) (ho3 : ∀ z, poN ws = some z → ¬ z < 0 → ¬ rfZ (σ.1 59 17) ks j v 1 → o = popF (skA ks) v i1 z.toInt.toNat) :
    kjY kPP (kQQ Y) (d + 7) 192 0 (mjL0 7 [.ref 70, .int x1]) [] σ (cdP σ0 B σ ws nm ks o) := by
  have hlen := (List.getElem?_eq_some_iff.mp hv).1
  obtain ⟨-, -, -, -, ⟨h4, h1024⟩, -⟩ := w.2.2.2.1
  -- the number stands
  have s21 : ∀ (u : kS) (x2 : Int32) (N : Int64), kTY u → KWd σ0 B u ws nm ks → SCl scB σ u → u.2.1 53 9 = N → poN ws = some N → kjY kPP (kQQ Y) (d + 7) 192 21 [some (.ref 70), some (.int x1), some (.int x2), none, none, none, none] [] u (cdP σ0 B σ ws nm ks o) := by
    intro u x2 N tu wu su eN hN
    refine kjZ_y rfl rfl 6 _ _ _ _ tu ?_
    refine (And.intro (tu.k (by decide) rfl) (And.intro (tu.k (by decide) rfl) (And.intro (fun c => ?_) (fun c => ?_))))
    rotate_left
    · have c : u.2.1 53 9 < 0 := Int64.not_le.mp (fun z => c ((lg_cmp_ge _ _).mpr z))
      rw [eN] at c
      refine kjZ_y rfl rfl 4 _ _ _ _ tu ?_
      refine (And.intro (tu.k (by decide) rfl) (And.intro rfl (And.intro (Nat.le_of_ble_eq_true rfl) (And.intro (Or.inl ⟨(Nat.le_of_ble_eq_true rfl), (tu.k (by decide) rfl)⟩) (And.intro (Nat.le_of_ble_eq_true rfl) (And.intro (Nat.le_of_ble_eq_true rfl) (kjY_mono tu (fun q_ u1 ty1 xu1 h_ => ?_) (kx_refuse tu wu (by decide)))))))))
      obtain ⟨rfl, w1, s1⟩ := h_
      intro _ _
      refine kjZ_y rfl rfl 1 _ _ _ _ ty1 ?_
      refine And.intro rfl (And.intro rfl ?_)
      exact cd_no PRE.rf w1 hr ((su.sub scHB).tr s1.h) (ho1 N hN c)
    have c : ¬ N < 0 := by rw [← eN]; exact Int64.not_lt.mpr ((lg_cmp_ge _ _).mp c)
    obtain ⟨n1, hn1, en1⟩ := pk_lOf c
    have hH := su.sub scHB
    refine kjZ_y rfl rfl 6 _ _ _ _ tu ?_
    refine (And.intro (tu.k (by decide) rfl) (And.intro (Nat.le_of_ble_eq_true rfl) (And.intro (Or.inl ⟨(Nat.le_of_ble_eq_true rfl), (tu.k (by decide) rfl)⟩) (And.intro (Nat.le_of_ble_eq_true rfl) (And.intro (Nat.le_of_ble_eq_true rfl) (kjY_mono tu (fun q_ u1 ty1 xu1 h_ => ?_) (kx_refuses tu wu hB (hj.sc hH) (a := 1) (b := 1) (by omega) (by omega) (s := 1) (by decide) _ _ _ rfl rfl rfl)))))))
    obtain ⟨nm1, p1, w1, s1, q⟩ := h_
    intro _ _
    rw [rf1 wu hv, (hH (59, 17) (by decide)).1] at q
    rcases q with ⟨rfl, q⟩ | ⟨rfl, q⟩
    · refine kjZ_y rfl rfl 1 _ _ _ _ ty1 ?_
      refine And.intro (fun c => ?_) (fun c => ?_)
      · exact absurd (show (1 : Int32) = 0 from c) (by decide)
      refine kjZ_y rfl rfl 1 _ _ _ _ ty1 ?_
      refine And.intro rfl (And.intro rfl ?_)
      exact cd_no p1 w1 hr (hH.tr s1.h) (ho2 q)
    have ho := ho3 N hN c q
    have hso := fun z => q (Or.inr z)
    refine kjZ_y rfl rfl 1 _ _ _ _ ty1 ?_
    refine And.intro (fun c => ?_) (fun c => ?_)
    rotate_left
    · exact absurd rfl c
    refine kjZ_y rfl rfl 4 _ _ _ _ ty1 ?_
    refine (And.intro (ty1.k (by decide) rfl) (And.intro (Nat.le_of_ble_eq_true rfl) (And.intro (Or.inl ⟨(Nat.le_of_ble_eq_true rfl), (ty1.k (by decide) rfl)⟩) (And.intro (Nat.le_of_ble_eq_true rfl) (And.intro (Nat.le_of_ble_eq_true rfl) (kjY_mono ty1 (fun q_ u2 ty2 xu2 h_ => ?_) (kx_id ty1 w1 hB hv _ rfl)))))))
    obtain ⟨k, nm2, rfl, p2, p3, w2, s2⟩ := h_
    intro _ _
    refine kjZ_y rfl rfl 5 _ _ _ _ ty2 ?_
    refine (And.intro (Nat.le_of_ble_eq_true rfl) (And.intro (ty2.k (by decide) rfl) (And.intro (Nat.le_of_ble_eq_true rfl) (And.intro (Or.inl ⟨(Nat.le_of_ble_eq_true rfl), (ty2.k (by decide) rfl)⟩) (And.intro (Nat.le_of_ble_eq_true rfl) (And.intro (Nat.le_of_ble_eq_true rfl) (kjY_mono ty2 (fun q_ u3 ty3 xu3 h_ => ?_) (kx_find ty2 w2 p2 _ rfl))))))))
    obtain ⟨rfl, q3⟩ := h_
    intro _ _
    have sH := (hH.tr s1.h).tr s2.h
    obtain ⟨b, hb, eb⟩ := w2.2.2.2.2.2.2.1
    have kb := ob_k ty3 (ANn_b b (ANb_n b hb)).1
    rcases q3 with ⟨rfl, q3⟩ | ⟨P, y, Q, rfl, f0, f1, f2⟩
    · refine kjZ_y rfl rfl 3 _ _ _ _ ty3 ?_
      refine (And.intro (Nat.le_of_ble_eq_true rfl) ?_)
      have go : ∀ xc : Int32, kjY kPP (kQQ Y) (d + 7) 192 60 [some (.ref 70), some (.int x1), some (.int x2), some (.int (nI k)), some .null, none, none] [.int xc, .ref b] u3 (cdP σ0 B σ ws nm ks o) := by
        intro xc
        refine kjZ_y rfl rfl 2 _ _ _ _ ty3 ?_
        refine (And.intro (Nat.le_of_ble_eq_true rfl) (And.intro (Or.inl ⟨(Nat.le_of_ble_eq_true rfl), (by assumption)⟩) (And.intro (Nat.le_of_ble_eq_true rfl) (And.intro (Nat.le_of_ble_eq_true rfl) (kjY_mono ty3 (fun q_ u4 ty4 xu4 h_ => ?_) (kx_head ty3 w2 hb _ _))))))
        obtain ⟨rfl, w4, s4⟩ := h_
        intro _ _
        refine kjZ_y rfl rfl 1 _ _ _ _ ty4 ?_
        refine And.intro rfl (And.intro rfl ?_)
        refine cd_no (p1.tr p3) w4 hr (sH.tr s4.h) ?_
        rw [ho]; unfold popF; rw [q3]
      refine kjZ_y rfl rfl 5 _ _ _ _ ty3 ?_
      refine (And.intro (ty3.k (by decide) rfl) (And.intro (ty3.k (by decide) rfl) (Exists.intro _ (And.intro eb (And.intro (fun c5 => ?_) (fun c5 => ?_))))))
      · refine kjZ_y rfl rfl 1 _ _ _ _ ty3 ?_
        exact go _
      · refine kjZ_y rfl rfl 2 _ _ _ _ ty3 ?_
        exact go _
    · subst f0
      have hs1 : y.2.2.2.2.2.2.1 = 1 := by
        have z := soT_k (s := nI 1) f2
        by_cases c4 : y.2.2.2.2.2.2.1 = nI 1
        · exact c4
        · rw [decide_eq_false c4] at z; exact absurd z hso
      obtain ⟨r1, r2⟩ := hr.two
      have hs0 : ¬ y.2.2.2.2.2.2.1 = 0 := by rw [hs1]; decide
      obtain ⟨z1, z2, kv⟩ := w2.sz hs0
      have e53 : u3.2.1 53 9 = N := ((s1.tr s2) (53, 9) (by decide)).2.1.trans eN
      refine kjZ_y rfl rfl 3 _ _ _ _ ty3 ?_
      refine (And.intro (Nat.le_of_ble_eq_true rfl) ?_)
      refine kjZ_y rfl rfl 7 _ _ _ _ ty3 ?_
      refine (And.intro (ty3.k (by decide) rfl) (And.intro (ty3.k (by decide) rfl) (And.intro (by assumption) (And.intro (Nat.le_of_ble_eq_true rfl) (And.intro (Nat.le_of_ble_eq_true rfl) (And.intro (Nat.le_of_ble_eq_true rfl) (kjY_mono ty3 (fun q_ u4 ty4 xu4 h_ => ?_) (k_minL ty3 _ _))))))))
      obtain ⟨rfl, rfl⟩ := h_
      intro _ _
      have em : (if (u4.1 y.1 6).toInt64 < u4.2.1 53 9 then (u4.1 y.1 6).toInt64 else u4.2.1 53 9).toInt32 = nI (min n1 y.2.2.2.2.2.2.2.2.2.2.length) := by
        rw [z1, nI_64 (by omega), e53, en1]
        by_cases c6 : lN y.2.2.2.2.2.2.2.2.2.2.length < lN n1
        · rw [if_pos c6, lN_32 (by omega)]
          have := Int64.lt_iff_toInt_lt.mp c6
          rw [pk_lT (by omega), pk_lT hn1] at this
          rw [Nat.min_eq_right (by omega)]
        · rw [if_neg c6]
          have : ¬ (y.2.2.2.2.2.2.2.2.2.2.length : Int) < n1 := fun z => c6 (by rw [Int64.lt_iff_toInt_lt, pk_lT (by omega), pk_lT hn1]; exact z)
          rw [lN_32 (by omega), Nat.min_eq_left (by omega)]
      have eo : o = if min n1 y.2.2.2.2.2.2.2.2.2.2.length = 0 then none else some (stlA (skA (P ++ y :: Q)) P.length (popE i1 (min n1 y.2.2.2.2.2.2.2.2.2.2.length))) := by
        rw [ho]; unfold popF; rw [f2]
        have e0 : (skA (P ++ y :: Q))[P.length]? = some y.2.2.2.2.2 := by
          rw [skA_app, skA_cons, List.getElem?_append_right (by rw [skA_len]; exact Nat.le_refl _), skA_len, Nat.sub_self]; rfl
        show (match (skA (P ++ y :: Q))[P.length]? with | some a => _ | none => _) = _
        rw [e0, en1, pk_lT hn1]; rfl
      have ml : min n1 y.2.2.2.2.2.2.2.2.2.2.length ≤ y.2.2.2.2.2.2.2.2.2.2.length := Nat.min_le_right _ _
      generalize min n1 y.2.2.2.2.2.2.2.2.2.2.length = m at em eo ml
      have fin : ∀ (u : kS) (x5 : Int32), x5 = nI m → kTY u → KWd σ0 B u ws nm2 (P ++ y :: Q) → SCl scH σ u → kjY kPP (kQQ Y) (d + 7) 192 79 [some (.ref 70), some (.int x1), some (.int x2), some (.int (nI k)), some (.ref y.1), some (.int x5), none] [] u (cdP σ0 B σ ws nm (P ++ y :: Q) o) := by
        intro u x5 e5 tu wu su
        have kvu : (u.2.2.2.1 y.1).1 = 11 := (wu.sz hs0).2.2
        refine kjZ_y rfl rfl 2 _ _ _ _ tu ?_
        refine (And.intro (Nat.le_of_ble_eq_true rfl) ?_)
        refine k_pop_l (d := d + 1) (σ := u) _ (n := y.2.2.2.2.2.2.2.2.2.2.length) (m := m) (by omega) x1 x2 _ x5 e5 ml ?_ hs0 m 0 _ u (by omega) rfl tu wu SCl.rf
        intro u7 x6 t7 w7 s7
        obtain ⟨y1, y2, kv7⟩ := w7.sz hs0
        by_cases hm : m = 0
        · refine kjZ_y rfl rfl 2 _ _ _ _ t7 ?_
          refine And.intro (fun c7 => ?_) (fun c7 => ?_)
          · refine kjZ_y rfl rfl 1 _ _ _ _ t7 ?_
            refine And.intro rfl (And.intro rfl ?_)
            exact cd_no (p1.tr p3) w7 hr (su.tr s7.h) (by rw [eo, if_pos hm])
          · exact absurd (show x5 ≤ 0 by rw [e5, hm]; exact Int32.le_refl _) c7
        · rw [if_neg hm] at eo
          refine kjZ_y rfl rfl 2 _ _ _ _ t7 ?_
          refine And.intro (fun c7 => ?_) (fun c7 => ?_)
          · refine absurd (show x5 ≤ nI 0 from c7) ?_
            rw [e5, nle (by omega) (by omega)]; omega
          have go : ∀ (i : Nat) (xi : Int32), xi = nI i → i + m ≤ y.2.2.2.2.2.2.2.2.2.2.length → cutL y.2.2.2.2.2.2.2.2.2.2 i m = popE i1 m y.2.2.2.2.2.2.2.2.2.2 → kjY kPP (kQQ Y) (d + 7) 192 116 [some (.ref 70), some (.int x1), some (.int x2), some (.int (nI k)), some (.ref y.1), some (.int x5), some (.int x6)] [.int xi, .ref y.1, .ref 70] u7 (cdP σ0 B σ ws nm (P ++ y :: Q) o) := by
            intro i xi exi him hcu
            refine kjZ_y rfl rfl 2 _ _ _ _ t7 ?_
            refine (And.intro (Nat.le_of_ble_eq_true rfl) (And.intro (Or.inl ⟨(Nat.le_of_ble_eq_true rfl), (t7.k (by decide) rfl)⟩) (And.intro (Nat.le_of_ble_eq_true rfl) (And.intro (Nat.le_of_ble_eq_true rfl) (kjY_mono t7 (fun q_ u8 ty8 xu8 h_ => ?_) (kx_lrem t7 w7 hs1 r2.1 him _ _ exi e5))))))
            obtain ⟨rfl, w8, s8⟩ := h_
            intro _ _
            have kv8 : (u8.2.2.2.1 y.1).1 = 11 := xu8.k t7 kv7 (by decide)
            have ek : mkK y (esF (fun es => cutL es i m) y.2.2.2.2.2) = mkK y (esF (popE i1 m) y.2.2.2.2.2) := by
              show mkK y (_, _, _, _, _, cutL y.2.2.2.2.2.2.2.2.2.2 i m) = _
              rw [hcu]; rfl
            rw [ek] at w8
            refine kjZ_y rfl rfl 5 _ _ _ _ ty8 ?_
            refine (And.intro (ty8.k (by decide) rfl) (And.intro (Nat.le_of_ble_eq_true rfl) (And.intro (Or.inl ⟨(Nat.le_of_ble_eq_true rfl), (ty8.k (by decide) rfl)⟩) (And.intro (Nat.le_of_ble_eq_true rfl) (And.intro (Nat.le_of_ble_eq_true rfl) (kjY_mono ty8 (fun q_ u9 ty9 xu9 h_ => ?_) (kx_settle (x := mkK y (esF (popE i1 m) y.2.2.2.2.2)) ty8 w8 (k := k) (by show nm2[k]? = some y.2.2.2.2.2.1; rw [f1]; exact p2) _ rfl)))))))
            obtain ⟨q9, q9b⟩ := h_
            intro _ _
            obtain ⟨sk1, sk2⟩ := stl_k (P := P) (Q := Q) (x := y) (popE i1 m) hs0
            obtain ⟨rfl, nmA, ksA, pA, wA, rA, eA, cA, sA⟩ := cd_se (σ := σ) (p1.tr p3) ((su.tr (s7.tr s8).h).sub scGH) ⟨q9, q9b⟩ (wkO_mk _ _) r1 sk1 sk2
            refine kjZ_y rfl rfl 1 _ _ _ _ ty9 ?_
            refine And.intro rfl (And.intro rfl ?_)
            exact cd_ok pA wA rA eA cA sA eo
          refine kjZ_y rfl rfl 4 _ _ _ _ t7 ?_
          refine And.intro (fun c8 => ?_) (fun c8 => ?_)
          · have h42 : i1 = 42 := by
              by_cases z : i1 = 42
              · exact z
              · rw [if_neg z] at e1; exact absurd (e1.symm.trans c8) (by decide)
            refine kjZ_y rfl rfl 4 _ _ _ _ t7 ?_
            refine (And.intro (by assumption) ?_)
            refine go (y.2.2.2.2.2.2.2.2.2.2.length - m) _ (by rw [y1, e5]; exact pk_sub ml) (by omega) ?_
            rw [h42, popE_42]; unfold cutL
            rw [List.drop_eq_nil_of_le (by omega), List.append_nil]
          · have h42 : ¬ i1 = 42 := fun z => c8 (show x1 = 0 by rw [e1, if_pos z])
            refine kjZ_y rfl rfl 2 _ _ _ _ t7 ?_
            refine go 0 _ rfl (by omega) ?_
            rw [popE_no h42]; unfold cutL
            rw [Nat.zero_add]; rfl
      refine kjZ_y rfl rfl 2 _ _ _ _ ty4 ?_
      refine (And.intro (Nat.le_of_ble_eq_true rfl) ?_)
      refine kjZ_y rfl rfl 2 _ _ _ _ ty4 ?_
      refine And.intro (fun c6 => ?_) (fun c6 => ?_)
      · exact fin u4 _ em ty4 w2 sH
      · refine kjZ_y rfl rfl 5 _ _ _ _ ty4 ?_
        refine (And.intro (ty4.k (by decide) rfl) (And.intro (ty4.k (by decide) rfl) (Exists.intro _ (And.intro eb (And.intro (Nat.le_of_ble_eq_true rfl) (And.intro (Or.inl ⟨(Nat.le_of_ble_eq_true rfl), (by assumption)⟩) (And.intro (Nat.le_of_ble_eq_true rfl) (And.intro (Nat.le_of_ble_eq_true rfl) (kjY_mono ty4 (fun q_ u5 ty5 xu5 h_ => ?_) (kx_rowHead ty4 w2 hb _))))))))))
        obtain ⟨rfl, w5, s5⟩ := h_
        intro _ _
        exact fin u5 _ em ty5 w5 (sH.tr s5.h)
  -- the flag, the number's place
  have s8 : ∀ x2 : Int32, (x2 = if 2 < ws.length then 1 else 0) → kjY kPP (kQQ Y) (d + 7) 192 8 [some (.ref 70), some (.int x1), none, none, none, none, none] [.int x2] σ (cdP σ0 B σ ws nm ks o) := by
    intro x2 ex2
    refine kjZ_y rfl rfl 5 _ _ _ _ ty ?_
    refine (And.intro (Nat.le_of_ble_eq_true rfl) (And.intro (ty.k (by decide) rfl) (And.intro (ty.k (by decide) rfl) (And.intro rfl (fun ty' => ?_)))))
    have go : ∀ z, kTY z → z = (σ.1, mjLu σ.2.1 53 9 (Int64.ofNat 1), σ.2.2) → kjY kPP (kQQ Y) (d + 7) 192 13 [some (.ref 70), some (.int x1), some (.int x2), none, none, none, none] [] z (cdP σ0 B σ ws nm ks o) := by
      intro z tz ez
      have wz : KWd σ0 B z ws nm ks := by rw [ez]; exact w.pl ty (by decide)
      have sz : SCl scB σ z := by rw [ez]; exact SCl.l (by decide +kernel)
      refine kjZ_y rfl rfl 2 _ _ _ _ tz ?_
      refine And.intro (fun c => ?_) (fun c => ?_)
      · have h2 : ¬ 2 < ws.length := fun y => by
          rw [if_pos y] at ex2; exact absurd (ex2.symm.trans c) (by decide)
        refine s21 z x2 1 tz wz sz ?_ (by unfold poN; rw [if_neg h2])
        rw [ez]; show mjLu σ.2.1 53 9 (Int64.ofNat 1) 53 9 = 1; rw [mjLu_p]; rfl
      · have h2 : 2 < ws.length := by
          by_cases y : 2 < ws.length
          · exact y
          · rw [if_neg y] at ex2; exact absurd ex2 c
        have hv2 : ws[2]? = some (ws.getD 2 []) := by rw [List.getD_eq_getElem?_getD, List.getElem?_eq_getElem h2]; rfl
        refine kjZ_y rfl rfl 4 _ _ _ _ tz ?_
        refine (And.intro (tz.k (by decide) rfl) (And.intro (Nat.le_of_ble_eq_true rfl) (And.intro (Or.inl ⟨(Nat.le_of_ble_eq_true rfl), (tz.k (by decide) rfl)⟩) (And.intro (Nat.le_of_ble_eq_true rfl) (And.intro (Nat.le_of_ble_eq_true rfl) (kjY_mono tz (fun q_ u1 ty1 xu1 h_ => ?_) (kx_lacksInteger tz wz hv2 _ rfl)))))))
        obtain ⟨w1, s1, q⟩ := h_
        intro _ _
        rcases q with ⟨N, q1, rfl, q2⟩ | ⟨q1, rfl⟩
        · refine kjZ_y rfl rfl 1 _ _ _ _ ty1 ?_
          refine And.intro (fun c2 => ?_) (fun c2 => ?_)
          rotate_left
          · exact absurd rfl c2
          exact s21 u1 x2 N ty1 w1 (sz.tr s1) q2 (by unfold poN; rw [if_pos h2]; exact q1)
        · refine kjZ_y rfl rfl 1 _ _ _ _ ty1 ?_
          refine And.intro (fun c2 => ?_) (fun c2 => ?_)
          · exact absurd (show (1 : Int32) = 0 from c2) (by decide)
          refine kjZ_y rfl rfl 1 _ _ _ _ ty1 ?_
          refine And.intro rfl (And.intro rfl ?_)
          exact cd_no PRE.rf w1 hr ((sz.tr s1).sub scHB) (ho0 (by unfold poN; rw [if_pos h2]; exact q1))
    exact go _ ty' rfl
  refine kjZ_y rfl rfl 5 _ _ _ _ ty ?_
  refine (And.intro (ty.k (by decide) rfl) (And.intro (ty.k (by decide) rfl) (And.intro (fun c => ?_) (fun c => ?_))))
  · have c : σ.1 53 4 ≤ nI 2 := c
    rw [h4, nle (by omega) (by omega)] at c
    refine kjZ_y rfl rfl 1 _ _ _ _ ty ?_
    exact s8 _ (by rw [if_neg (by omega)]; rfl)
  · have c : ¬ σ.1 53 4 ≤ nI 2 := c
    rw [h4, nle (by omega) (by omega)] at c
    refine kjZ_y rfl rfl 2 _ _ _ _ ty ?_
    exact s8 _ (by rw [if_pos (by omega)]; rfl)
end KPOP
