/-! HDEL, SREM. -/
theorem SP_cut {es : List AE} (h : SP es) (i m : Nat) : SP (cutL es i m) := by
  unfold cutL
  have h1 : (es.take i ++ es.drop (i + m)).Sublist es := by
    conv => rhs; rw [← List.take_append_drop i es]
    refine List.Sublist.append (List.Sublist.refl _) ?_
    rw [← List.drop_drop]; exact List.drop_sublist _ _
  exact List.Pairwise.sublist h1 h
theorem rvI_no {i1 : Nat} (hi : ¬ i1 = 79) (v : List Int32) (es : List AE) : rvI i1 v es = if skT v es = true then some (skI v es) else none := if_neg hi
theorem rvE_y {i1 : Nat} (hi : ¬ i1 = 79) {v : List Int32} {es : List AE} (h : skT v es = true) : rvE i1 v es = rmE (skI v es) es := by unfold rvE; rw [rvI_no hi, if_pos h]
theorem rvE_n {i1 : Nat} (hi : ¬ i1 = 79) {v : List Int32} {es : List AE} (h : ¬ skT v es = true) : rvE i1 v es = es := by unfold rvE; rw [rvI_no hi, if_neg h]
theorem rvN_y {i1 : Nat} (hi : ¬ i1 = 79) {v : List Int32} {es : List AE} (h : skT v es = true) (r : List (List Int32)) : rvN i1 es (v :: r) = 1 + rvN i1 (rmE (skI v es) es) r := by
  show (match rvI i1 v es with | some _ => 1 | none => 0) + rvN i1 (rvE i1 v es) r = _
  rw [rvE_y hi h, rvI_no hi, if_pos h]
theorem rvN_n {i1 : Nat} (hi : ¬ i1 = 79) {v : List Int32} {es : List AE} (h : ¬ skT v es = true) (r : List (List Int32)) : rvN i1 es (v :: r) = rvN i1 es r := by
  show (match rvI i1 v es with | some _ => 1 | none => 0) + rvN i1 (rvE i1 v es) r = _
  rw [rvE_n hi h, rvI_no hi, if_neg h]; exact Nat.zero_add _
theorem clA_mk {P Q : List KC} {x : KC} {g : List AE → List AE} (h : (g x.2.2.2.2.2.2.2.2.2.2).length ≤ x.2.2.2.2.2.2.2.2.2.2.length) : clA (skA (P ++ mkK x (esF g x.2.2.2.2.2) :: Q)) ≤ clA (skA (P ++ x :: Q)) := by
  rw [clA_at, clA_at]
  have : ptI x.2.2.2.2.2.2.1 * (g x.2.2.2.2.2.2.2.2.2.2).length ≤ ptI x.2.2.2.2.2.2.1 * x.2.2.2.2.2.2.2.2.2.2.length := Nat.mul_le_mul_left _ h
  show _ + ptI x.2.2.2.2.2.2.1 * (g x.2.2.2.2.2.2.2.2.2.2).length + _ ≤ _
  omega
theorem mkK_mk (x : KC) (f g : List AE → List AE) : mkK (mkK x (esF f x.2.2.2.2.2)) (esF g (mkK x (esF f x.2.2.2.2.2)).2.2.2.2.2) = mkK x (esF (fun es => g (f es)) x.2.2.2.2.2) := rfl
section KMREM
variable {Y : Nat → MethodName × ByteArray} {d : Nat} {σ0 σ u : kS} {B ws nm nm' : List (List Int32)} {ks : List KC}
theorem kx_mrem (ty : kTY σ) {P Q : List KC} {x : KC} (w : KWd σ0 B σ ws nm (P ++ x :: Q)) (hsort : x.2.2.2.2.2.2.1 = 2 ∨ x.2.2.2.2.2.2.1 = 3) (hwk : wkO x) {i : Nat} (hi : i < x.2.2.2.2.2.2.2.2.2.2.length) (x2 : Int32) (e2 : x2 = nI i) :
    kjY kPP (kQQ Y) (d + 3) 207 0 (mjL0 4 [.ref 71, .ref x.1, .int x2]) [] σ (wP σ0 B σ ws nm (P ++ mkK x (esF (rmE i) x.2.2.2.2.2) :: Q)) :=
  hsort.elim (fun h => kx_mrem2 ty w h hwk hi x2 e2) (fun h => kx_mrem3 ty w h hwk hi x2 e2)
theorem k_mrem_l (K : kK) (hB : BOK B ws) {P Q : List KC} (i1 : Nat) (hi1 : ¬ i1 = 79) (x1 x2 : Int32) (v0 : Nat) (y0 : KC) (N : Nat)
    (hK : ∀ u nm' x5 o6, kTY u → PRE nm nm' → KWd σ0 B u ws nm' (P ++ y0 :: Q) → SCl scA σ u → kjY kPP (kQQ Y) (d + 6) 208 47 [some (.ref 71), some (.int x1), some (.int x2), some (.ref v0), some (.int (nI N)), some (.int x5), o6] [] u K) :
    ∀ (f j c : Nat) (x4 x5 : Int32) (o6 : Option Value) (nm' : List (List Int32)) (x : KC) (u : kS), j + f = ws.length → x5 = nI j → x4 = nI c → c + rvN i1 x.2.2.2.2.2.2.2.2.2.2 (ws.drop j) = N → kTY u → PRE nm nm' → KWd σ0 B u ws nm' (P ++ x :: Q) → SCl scA σ u → (x.2.2.2.2.2.2.1 = 2 ∨ x.2.2.2.2.2.2.1 = 3) → wkO x → SP x.2.2.2.2.2.2.2.2.2.2 → x.1 = v0 → mkK x (esF (fun es => rvA i1 es (ws.drop j)) x.2.2.2.2.2) = y0 →
    kjY kPP (kQQ Y) (d + 6) 208 22 [some (.ref 71), some (.int x1), some (.int x2), some (.ref v0), some (.int x4), some (.int x5), o6] [] u K := by
  intro f
  induction f with
  | zero =>
    intro j c x4 x5 o6 nm' x u hj e5 e4 hN tu hp wu su hso hwk hSP hx hy
    obtain ⟨g, M, -, -, ⟨h4, h1024⟩, -⟩ := wu.2.2.2.1
    obtain ⟨z1, z2, kv⟩ := wu.sz (by rcases hso with h | h <;> rw [h] <;> decide)
    rw [hx] at kv
    rw [List.drop_eq_nil_of_le (by omega)] at hN hy
    have hN : c + 0 = N := hN
    have hy : mkK x x.2.2.2.2.2 = y0 := hy
    refine kjZ_y rfl rfl 5 _ _ _ _ tu ?_
    refine (And.intro (tu.k (by decide) rfl) (And.intro (tu.k (by decide) rfl) (And.intro (fun c1 => ?_) (fun c1 => ?_))))
    rotate_left
    · refine absurd (show u.1 53 4 ≤ x5 from ?_) c1
      rw [h4, e5, nle (by omega) (by omega)]; omega
    have e : x4 = nI N := by rw [e4]; congr 1
    rw [e]
    refine hK u nm' x5 o6 tu hp ?_ su
    rw [← hy, mkK_self hwk]; exact wu
  | succ f ih =>
    intro j c x4 x5 o6 nm' x u hj e5 e4 hN tu hp wu su hso hwk hSP hx hy
    obtain ⟨g, M, -, -, ⟨h4, h1024⟩, -⟩ := wu.2.2.2.1
    obtain ⟨z1, z2, kv⟩ := wu.sz (by rcases hso with h | h <;> rw [h] <;> decide)
    have hjl : j < ws.length := by omega
    have hd : ws.drop j = ws[j] :: ws.drop (j + 1) := List.drop_eq_getElem_cons hjl
    subst hx
    refine kjZ_y rfl rfl 5 _ _ _ _ tu ?_
    refine (And.intro (tu.k (by decide) rfl) (And.intro (tu.k (by decide) rfl) (And.intro (fun c1 => ?_) (fun c1 => ?_))))
    · refine absurd (show u.1 53 4 ≤ x5 from c1) ?_
      rw [h4, e5, nle (by omega) (by omega)]; omega
    have hv := List.getElem?_eq_getElem hjl
    generalize ws[j] = v at hv hd
    refine kjZ_y rfl rfl 9 _ _ _ _ tu ?_
    refine (And.intro (tu.k (by decide) rfl) (And.intro (tu.k (by decide) rfl) (And.intro (Nat.le_of_ble_eq_true rfl) (And.intro (Or.inl ⟨(Nat.le_of_ble_eq_true rfl), (tu.k (by decide) rfl)⟩) (And.intro (Nat.le_of_ble_eq_true rfl) (And.intro (Nat.le_of_ble_eq_true rfl) (kjY_mono tu (fun q_ u1 ty1 xu1 h_ => ?_) (kx_id tu wu hB hv _ e5))))))))
    obtain ⟨k, nm2, rfl, p2, p3, w1, s1⟩ := h_
    intro _ _
    have kv1 : (u1.2.2.2.1 x.1).1 = 11 := xu1.k tu kv (by decide)
    refine kjZ_y rfl rfl 1 _ _ _ _ ty1 ?_
    refine (And.intro (Nat.le_of_ble_eq_true rfl) (And.intro (Or.inl ⟨(Nat.le_of_ble_eq_true rfl), (ty1.k (by decide) rfl)⟩) (And.intro (Nat.le_of_ble_eq_true rfl) (And.intro (Nat.le_of_ble_eq_true rfl) (kjY_mono ty1 (fun q_ u2 ty2 xu2 h_ => ?_) (kx_plM ty1 w1 hso hSP p2 _ rfl))))))
    obtain ⟨rfl, rfl⟩ := h_
    intro _ _
    have hsl9 := skR_lt (v := v) (es := x.2.2.2.2.2.2.2.2.2.2) (by omega)
    refine kjZ_y rfl rfl 3 _ _ _ _ ty2 ?_
    refine (And.intro (Nat.le_of_ble_eq_true rfl) (And.intro (fun c2 => ?_) (fun c2 => ?_)))
    · have hno := hsl9.1.mp c2
      refine kjZ_y rfl rfl 2 _ _ _ _ ty2 ?_
      refine ih (j + 1) c x4 _ _ nm2 x u2 (by omega) (by rw [e5]; exact nI_1 j) e4 ?_ ty2 (hp.tr p3) w1 (su.tr s1) hso hwk hSP rfl ?_
      · rw [hd, rvN_n hi1 hno] at hN; exact hN
      · rw [hd] at hy; rw [← hy]
        show mkK x (_, _, _, _, _, rvA i1 _ _) = mkK x (_, _, _, _, _, rvA i1 (rvE i1 v _) _)
        rw [rvE_n hi1 hno]
    · have hyes : skT v x.2.2.2.2.2.2.2.2.2.2 = true := Decidable.byContradiction fun z => c2 (hsl9.1.mpr z)
      obtain ⟨z, hz1, hz2, hz3⟩ := skT_at hyes
      have e6 : skR v x.2.2.2.2.2.2.2.2.2.2 = nI (skI v x.2.2.2.2.2.2.2.2.2.2) := by unfold skR; rw [if_pos hyes]
      refine kjZ_y rfl rfl 4 _ _ _ _ ty2 ?_
      refine (And.intro (Nat.le_of_ble_eq_true rfl) (And.intro (Or.inl ⟨(Nat.le_of_ble_eq_true rfl), (ty2.k (by decide) rfl)⟩) (And.intro (Nat.le_of_ble_eq_true rfl) (And.intro (Nat.le_of_ble_eq_true rfl) (kjY_mono ty2 (fun q_ u3 ty3 xu3 h_ => ?_) (kx_mrem ty2 w1 hso hwk hz3 _ e6))))))
      obtain ⟨rfl, w3, s3⟩ := h_
      intro _ _
      have kv3 : (u3.2.2.2.1 x.1).1 = 11 := xu3.k ty2 kv1 (by decide)
      refine kjZ_y rfl rfl 3 _ _ _ _ ty3 ?_
      refine ih (j + 1) (c + 1) _ _ _ nm2 (mkK x (esF (rmE (skI v x.2.2.2.2.2.2.2.2.2.2)) x.2.2.2.2.2)) u3 (by omega) (by rw [e5]; exact nI_1 j) (by rw [e4]; exact nI_1 c) ?_ ty3 (hp.tr p3) w3 ((su.tr s1).tr s3) hso (wkO_mk _ _) ?_ rfl ?_
      · rw [hd, rvN_y hi1 hyes] at hN
        show c + 1 + rvN i1 (rmE _ _) _ = N; omega
      · show SP (rmE _ _); rw [rmE_cut]; exact SP_cut hSP _ _
      · rw [hd] at hy; rw [← hy]
        show mkK x (_, _, _, _, _, rvA i1 (rmE _ _) _) = mkK x (_, _, _, _, _, rvA i1 (rvE i1 v _) _)
        rw [rvE_y hi1 hyes]; rfl
theorem rvN_le2 (i1 : Nat) (vs : List (List Int32)) (es : List AE) : rvN i1 es vs ≤ vs.length := rvN_le i1 vs es
theorem kx_removeAll (ty : kTY σ) (w : KWd σ0 B σ ws nm ks) (hr : RSD ks) (hB : BOK B ws) {j : Nat} (hj : CMD σ j) {v : List Int32} (hv : ws[1]? = some v) (hl2 : 2 ≤ ws.length) (hS : ∀ x ∈ ks, x.2.2.2.2.2.2.1 = 2 ∨ x.2.2.2.2.2.2.1 = 3 → SP x.2.2.2.2.2.2.2.2.2.2) {s : Nat} (hs : s = 2 ∨ s = 3) (x1 : Int32) (e1 : x1 = nI s) (i1 : Nat) (hi1 : ¬ i1 = 79) {o : Option (List AK)} (ho2 : rfZ (σ.1 59 17) ks j v s → o = none) (ho3 : ¬ rfZ (σ.1 59 17) ks j v s → o = rvF (skA ks) v i1 (ws.drop 2)) :
    kjY kPP (kQQ Y) (d + 7) 208 0 (mjL0 7 [.ref 71, .int x1]) [] σ (cdP σ0 B σ ws nm ks o) := by
  have hlen := (List.getElem?_eq_some_iff.mp hv).1
  have h4s : s ≤ 4 := by omega
  obtain ⟨-, -, -, -, ⟨h4, h1024⟩, -⟩ := w.2.2.2.1
  refine kjZ_y rfl rfl 6 _ _ _ _ ty ?_
  refine (And.intro (ty.k (by decide) rfl) (And.intro (Nat.le_of_ble_eq_true rfl) (And.intro (Or.inl ⟨(Nat.le_of_ble_eq_true rfl), (ty.k (by decide) rfl)⟩) (And.intro (Nat.le_of_ble_eq_true rfl) (And.intro (Nat.le_of_ble_eq_true rfl) (kjY_mono ty (fun q_ u1 ty1 xu1 h_ => ?_) (kx_refuses ty w hB hj (a := 1) (b := 1) (by omega) (by omega) (s := s) h4s _ _ _ rfl rfl e1)))))))
  obtain ⟨nm1, p1, w1, s1, q⟩ := h_
  intro _ _
  rw [rf1 w hv] at q
  rcases q with ⟨rfl, q⟩ | ⟨rfl, q⟩
  · refine kjZ_y rfl rfl 1 _ _ _ _ ty1 ?_
    refine And.intro (fun c => ?_) (fun c => ?_)
    · exact absurd (show (1 : Int32) = 0 from c) (by decide)
    refine kjZ_y rfl rfl 1 _ _ _ _ ty1 ?_
    refine And.intro rfl (And.intro rfl ?_)
    exact cd_no p1 w1 hr s1.h (ho2 q)
  have ho := ho3 q
  have hso := fun z => q (Or.inr z)
  refine kjZ_y rfl rfl 1 _ _ _ _ ty1 ?_
  refine And.intro (fun c => ?_) (fun c => ?_)
  rotate_left
  · exact absurd rfl c
  refine kjZ_y rfl rfl 4 _ _ _ _ ty1 ?_
  refine (And.intro (ty1.k (by decide) rfl) (And.intro (Nat.le_of_ble_eq_true rfl) (And.intro (Or.inl ⟨(Nat.le_of_ble_eq_true rfl), (ty1.k (by decide) rfl)⟩) (And.intro (Nat.le_of_ble_eq_true rfl) (And.intro (Nat.le_of_ble_eq_true rfl) (kjY_mono ty1 (fun q_ u2 ty2 xu2 h_ => ?_) (kx_id ty1 w1 hB hv _ rfl)))))))
  obtain ⟨k, nm2, rfl, p2, p3, w2, s2⟩ := h_
  intro _ _
  refine kjZ_y rfl rfl 5 _ _ _ _ ty2 ?_
  refine (And.intro (Nat.le_of_ble_eq_true rfl) (And.intro (ty2.k (by decide) rfl) (And.intro (Nat.le_of_ble_eq_true rfl) (And.intro (Or.inl ⟨(Nat.le_of_ble_eq_true rfl), (ty2.k (by decide) rfl)⟩) (And.intro (Nat.le_of_ble_eq_true rfl) (And.intro (Nat.le_of_ble_eq_true rfl) (kjY_mono ty2 (fun q_ u3 ty3 xu3 h_ => ?_) (kx_find ty2 w2 p2 _ rfl))))))))
  obtain ⟨rfl, q3⟩ := h_
  intro _ _
  have sA := s1.tr s2
  have pA := p1.tr p3
  unfold rvF at ho
  -- the answer
  have s54 : ∀ (z : kS) (nm' : List (List Int32)) (ks' : List KC) (o3 : Value) (x4 x5 : Int32) (o6 : Option Value), kTY z → KWd σ0 B z ws nm' ks' → (∀ z2, KWd σ0 B z2 ws nm' ks' → SCl scA z z2 → cdP σ0 B σ ws nm ks o none z2) → kjY kPP (kQQ Y) (d + 7) 208 54 [some (.ref 71), some (.int x1), some (.int (nI k)), some o3, some (.int x4), some (.int x5), o6] [] z (cdP σ0 B σ ws nm ks o) := by
    intro z nm' ks' o3 x4 x5 o6 tz wz hz
    obtain ⟨b, hb, eb⟩ := wz.2.2.2.2.2.2.1
    have kb := ob_k tz (ANn_b b (ANb_n b hb)).1
    refine kjZ_y rfl rfl 6 _ _ _ _ tz ?_
    refine (And.intro (tz.k (by decide) rfl) (And.intro (tz.k (by decide) rfl) (Exists.intro _ (And.intro eb (And.intro (Nat.le_of_ble_eq_true rfl) (And.intro (Or.inl ⟨(Nat.le_of_ble_eq_true rfl), (by assumption)⟩) (And.intro (Nat.le_of_ble_eq_true rfl) (And.intro (Nat.le_of_ble_eq_true rfl) (kjY_mono tz (fun q_ u5 ty5 xu5 h_ => ?_) (kx_number tz wz hb _))))))))))
    obtain ⟨rfl, w5, s5⟩ := h_
    intro _ _
    refine kjZ_y rfl rfl 1 _ _ _ _ ty5 ?_
    refine And.intro rfl (And.intro rfl ?_)
    exact hz u5 w5 s5
  rcases q3 with ⟨rfl, q3⟩ | ⟨P, y, Q, rfl, f0, f1, f2⟩
  · have go : kjY kPP (kQQ Y) (d + 7) 208 47 [some (.ref 71), some (.int x1), some (.int (nI k)), some .null, some (.int (Int32.ofInt 0)), some (.int (Int32.ofInt 2)), none] [] u3 (cdP σ0 B σ ws nm ks o) := by
      refine kjZ_y rfl rfl 2 _ _ _ _ ty3 ?_
      refine And.intro (fun c2 => ?_) (fun c2 => ?_)
      rotate_left
      · exact absurd (show Int32.ofInt 0 ≤ 0 by decide) c2
      exact s54 u3 _ _ _ _ _ _ ty3 w2 (fun z2 wz sz => cd_no pA wz hr (sA.tr sz).h (by rw [ho, q3]))
    refine kjZ_y rfl rfl 5 _ _ _ _ ty3 ?_
    refine (And.intro (Nat.le_of_ble_eq_true rfl) (And.intro (Nat.le_of_ble_eq_true rfl) (And.intro (Nat.le_of_ble_eq_true rfl) ?_)))
    refine kjZ_y rfl rfl 5 _ _ _ _ ty3 ?_
    refine (And.intro (ty3.k (by decide) rfl) (And.intro (ty3.k (by decide) rfl) (And.intro (fun c2 => ?_) (fun c2 => ?_))))
    · exact go
    refine kjZ_y rfl rfl 2 _ _ _ _ ty3 ?_
    exact go
  · subst f0
    have hs2 : y.2.2.2.2.2.2.1 = nI s := so_1 (s := s) f2 hso
    have hs23 : y.2.2.2.2.2.2.1 = 2 ∨ y.2.2.2.2.2.2.1 = 3 := by rcases hs with h | h <;> rw [hs2, h]; exact Or.inl rfl; exact Or.inr rfl
    have hs0 : ¬ y.2.2.2.2.2.2.1 = 0 := by rcases hs23 with h | h <;> rw [h] <;> decide
    obtain ⟨z1, z2, kv⟩ := w2.sz hs0
    obtain ⟨r1, r2⟩ := hr.two
    have hSP := hS y (List.mem_append_right _ List.mem_cons_self) hs23
    rw [f2] at ho
    have ho : o = (match (skA (P ++ y :: Q))[P.length]? with | none => none | some a => if rvN i1 a.2.2.2.2.2 (ws.drop 2) = 0 then none else some (stlA (skA (P ++ y :: Q)) P.length (fun es => rvA i1 es (ws.drop 2)))) := ho
    rw [skA_at] at ho
    have ho : o = if rvN i1 y.2.2.2.2.2.2.2.2.2.2 (ws.drop 2) = 0 then none else some (stlA (skA (P ++ y :: Q)) P.length (fun es => rvA i1 es (ws.drop 2))) := ho
    have hle := rvN_le i1 (ws.drop 2) y.2.2.2.2.2.2.2.2.2.2
    rw [List.length_drop] at hle
    refine kjZ_y rfl rfl 5 _ _ _ _ ty3 ?_
    refine (And.intro (Nat.le_of_ble_eq_true rfl) (And.intro (Nat.le_of_ble_eq_true rfl) (And.intro (Nat.le_of_ble_eq_true rfl) ?_)))
    have fin : ∀ (u : kS) (nm' : List (List Int32)) (x5 : Int32) (o6 : Option Value), kTY u → PRE nm2 nm' → KWd σ0 B u ws nm' (P ++ mkK y (esF (fun es => rvA i1 es (ws.drop 2)) y.2.2.2.2.2) :: Q) → SCl scA u3 u → kjY kPP (kQQ Y) (d + 7) 208 47 [some (.ref 71), some (.int x1), some (.int (nI k)), some (.ref y.1), some (.int (nI (rvN i1 y.2.2.2.2.2.2.2.2.2.2 (ws.drop 2)))), some (.int x5), o6] [] u (cdP σ0 B σ ws nm (P ++ y :: Q) o) := by
      intro u nm' x5 o6 tu hp wu su
      have kvu : (u.2.2.2.1 y.1).1 = 11 := (wu.sz (x := mkK y (esF (fun es => rvA i1 es (ws.drop 2)) y.2.2.2.2.2)) hs0).2.2
      by_cases cN : rvN i1 y.2.2.2.2.2.2.2.2.2.2 (ws.drop 2) = 0
      · rw [if_pos cN] at ho
        have ey : mkK y (esF (fun es => rvA i1 es (ws.drop 2)) y.2.2.2.2.2) = y := by
          show mkK y (_, _, _, _, _, rvA i1 _ _) = _
          rw [rvN_0 i1 _ _ cN]; exact mkK_self r2.1
        rw [ey] at wu
        rw [cN]
        refine kjZ_y rfl rfl 2 _ _ _ _ tu ?_
        refine And.intro (fun c2 => ?_) (fun c2 => ?_)
        rotate_left
        · exact absurd (show nI 0 ≤ 0 by decide) c2
        exact s54 u _ _ _ _ _ _ tu wu (fun z2 wz sz => cd_no (pA.tr hp) wz hr ((sA.tr su).tr sz).h ho)
      · rw [if_neg cN] at ho
        refine kjZ_y rfl rfl 2 _ _ _ _ tu ?_
        refine And.intro (fun c2 => ?_) (fun c2 => ?_)
        · refine absurd (show nI (rvN i1 y.2.2.2.2.2.2.2.2.2.2 (ws.drop 2)) ≤ nI 0 from c2) ?_
          rw [nle (by omega) (by decide)]; omega
        refine kjZ_y rfl rfl 5 _ _ _ _ tu ?_
        refine (And.intro (tu.k (by decide) rfl) (And.intro (Nat.le_of_ble_eq_true rfl) (And.intro (Or.inl ⟨(Nat.le_of_ble_eq_true rfl), (tu.k (by decide) rfl)⟩) (And.intro (Nat.le_of_ble_eq_true rfl) (And.intro (Nat.le_of_ble_eq_true rfl) (kjY_mono tu (fun q_ u5 ty5 xu5 h_ => ?_) (kx_settle (x := mkK y (esF (fun es => rvA i1 es (ws.drop 2)) y.2.2.2.2.2)) tu wu (k := k) (by show nm'[k]? = some y.2.2.2.2.2.1; rw [f1]; exact hp.get p2) _ rfl)))))))
        obtain ⟨q9, q9b⟩ := h_
        intro _ _
        obtain ⟨st1, st2⟩ := stl_k (P := P) (Q := Q) (x := y) (fun es => rvA i1 es (ws.drop 2)) hs0
        obtain ⟨rfl, nmA, ksA, pA5, wA, rA, eA, cA, sA5⟩ := cd_se (σ := σ) (pA.tr hp) ((sA.tr su).g) ⟨q9, q9b⟩ (wkO_mk _ _) r1 st1 st2
        exact s54 u5 _ _ _ _ _ _ ty5 wA (fun z2 wz sz => cd_ok pA5 wz rA eA ((sz (59, 18) (by decide)).1.trans cA) (sA5.tr sz.g) ho)
    refine k_mrem_l (σ := u3) (d := d + 1) _ hB i1 hi1 x1 (nI k) y.1 _ _ (fun u nm' x5 o6 tu hp wu su => fin u nm' x5 o6 tu hp wu su) (ws.length - 2) 2 0 _ _ _ nm2 y u3 ?_ rfl rfl (Nat.zero_add _) ty3 PRE.rf w2 SCl.rf hs23 r2.1 hSP rfl rfl
    omega
end KMREM
