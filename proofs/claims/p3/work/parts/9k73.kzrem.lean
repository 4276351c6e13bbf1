/-! ZREM. -/
theorem ZP_cut {es : List AE} (h : ZP es) (i m : Nat) : ZP (cutL es i m) := by
  unfold cutL
  have h1 : (es.take i ++ es.drop (i + m)).Sublist es := by
    conv => rhs; rw [← List.take_append_drop i es]
    refine List.Sublist.append (List.Sublist.refl _) ?_
    rw [← List.drop_drop]; exact List.drop_sublist _ _
  exact List.Pairwise.sublist h1 h
theorem fdE_at {v : List Int32} : ∀ {es : List AE} {j : Nat} {z : AE}, es[j]? = some z → cmpW z.1 v = 0 → (∀ i t, i < j → es[i]? = some t → ¬ cmpW t.1 v = 0) → fdE v es = some j := by
  intro es
  induction es with
  | nil => intro j z h; cases h
  | cons a r ih =>
    intro j z h1 h2 h3
    show (if cmpW a.1 v = 0 then some 0 else (fdE v r).map (fun i => i + 1)) = _
    cases j with
    | zero => cases h1; rw [if_pos h2]
    | succ j =>
      rw [if_neg (h3 0 a (Nat.succ_pos _) rfl), ih (j := j) (z := z) h1 h2 (fun i t hi ht => h3 (i + 1) t (by omega) ht)]; rfl
theorem fdE_y {v : List Int32} {es : List AE} (hZ : ZP es) {j : Nat} {z : AE} (h1 : es[j]? = some z) (h2 : z.1 = v) : fdE v es = some j := by
  refine fdE_at h1 (by rw [h2]; exact cmpW_self v) (fun i t hi ht => ?_)
  obtain ⟨g1, g2⟩ := List.getElem?_eq_some_iff.mp ht
  obtain ⟨g3, g4⟩ := List.getElem?_eq_some_iff.mp h1
  have := (List.pairwise_iff_getElem.mp hZ i j g1 g3 hi).2
  rw [g2, g4, h2] at this; exact this
theorem fdE_n {v : List Int32} : ∀ {es : List AE}, B8 v → (∀ z ∈ es, B8 z.1) → ¬ nmF v es = true → fdE v es = none := by
  intro es
  induction es with
  | nil => intro _ _ _; rfl
  | cons a r ih =>
    intro hv he hf
    have h0 : ¬ a.1 = v := fun q => hf (by unfold nmF; rw [List.any_eq_true]; exact ⟨a, List.mem_cons_self, decide_eq_true q⟩)
    show (if cmpW a.1 v = 0 then some 0 else (fdE v r).map (fun i => i + 1)) = none
    rw [if_neg (fun q => h0 (cmpW_eq _ _ (he a List.mem_cons_self) hv q)), ih hv (fun z hz => he z (List.mem_cons_of_mem _ hz)) (fun q => hf (by
      unfold nmF at q ⊢
      rw [List.any_eq_true] at q ⊢
      obtain ⟨z, hz, e⟩ := q
      exact ⟨z, List.mem_cons_of_mem _ hz, e⟩))]
    rfl
theorem nmC_le (v : List Int32) (es : List AE) : nmC v es ≤ es.length := List.countP_le_length
theorem nm_neg {v : List Int32} {es : List AE} (h : es.length < 2 ^ 29) : -1 - nI (nmC v es) < 0 := by
  have := nmC_le v es
  rw [Int32.lt_iff_toInt_lt, Int32.toInt_sub, nI_toInt (by omega), show ((-1 : Int32)).toInt = -1 by decide]
  rw [Int.bmod_eq_of_le (by omega) (by omega)]; show _ < (0 : Int); omega
section KZREM
variable {Y : Nat → MethodName × ByteArray} {d : Nat} {σ0 σ u : kS} {B ws nm nm' : List (List Int32)} {ks : List KC}
theorem KWd.b8o (ty : kTY σ) {P Q : List KC} {x : KC} (w : KWd σ0 B σ ws nm (P ++ x :: Q)) (hsort : x.2.2.2.2.2.2.1 = 4) : ∀ z ∈ x.2.2.2.2.2.2.2.2.2.2, B8 z.1 := by
  obtain ⟨fr, vs, e0, q0, q1, q2, q3, fs, hR, hV, a1, ⟨b3, b4⟩, ⟨c1, c3, c0, c2, hp, hsp⟩, hd, s6, hn6, s4⟩ := w.o4 hsort
  intro z hz
  obtain ⟨i, hi, g⟩ := List.mem_iff_getElem.mp hz
  obtain ⟨k9, -, g2⟩ := c1.2 i z.1 (by rw [List.getElem?_map, List.getElem?_eq_getElem hi, g]; rfl)
  exact w.2.2.1.1.b8 ty g2
theorem k_zrem_l (K : kK) (hB : BOK B ws) {P Q : List KC} (x2 : Int32) (v0 : Nat) (y0 : KC) (N : Nat)
    (hK : ∀ u nm' x5 o6, kTY u → PRE nm nm' → KWd σ0 B u ws nm' (P ++ y0 :: Q) → SCl scA σ u → kjY kPP (kQQ Y) (d + 6) 242 47 [some (.ref 75), some (.int x2), some (.ref v0), some (.int (nI N)), some (.int x5), o6] [] u K) :
    ∀ (f j c : Nat) (x4 x5 : Int32) (o6 : Option Value) (nm' : List (List Int32)) (x : KC) (u : kS), j + f = ws.length → x5 = nI j → x4 = nI c → c + rvN 79 x.2.2.2.2.2.2.2.2.2.2 (ws.drop j) = N → kTY u → PRE nm nm' → KWd σ0 B u ws nm' (P ++ x :: Q) → SCl scA σ u → x.2.2.2.2.2.2.1 = 4 → wkO x → ZP x.2.2.2.2.2.2.2.2.2.2 → x.1 = v0 → mkK x (esF (fun es => rvA 79 es (ws.drop j)) x.2.2.2.2.2) = y0 →
    kjY kPP (kQQ Y) (d + 6) 242 22 [some (.ref 75), some (.int x2), some (.ref v0), some (.int x4), some (.int x5), o6] [] u K := by
  intro f
  induction f with
  | zero =>
    intro j c x4 x5 o6 nm' x u hj e5 e4 hN tu hp wu su hso hwk hSP hx hy
    obtain ⟨g, M, -, -, ⟨h4, h1024⟩, -⟩ := wu.2.2.2.1
    obtain ⟨z1, z2, kv⟩ := wu.sz (by rw [hso]; decide)
    rw [hx] at kv
    rw [List.drop_eq_nil_of_le (by omega)] at hN hy
    have hN : c + 0 = N := hN
    have hy : mkK x x.2.2.2.2.2 = y0 := hy
    refine kjZ_y rfl rfl 5 _ _ _ _ tu ?_
    refine (And.intro (tu.k (by decide) rfl) (And.intro (tu.k (by decide) rfl) (And.intro (fun c1 => ?_) (fun c1 => ?_))))
    rotate_left
    · refine absurd (show u.1 53 4 ≤ x5 from ?_) c1
      rw [h4, e5, nle (by omega) (by omega)]; omega
    have e : x4 = nI N := by rw [e4]; congr 1
    rw [e]
    refine hK u nm' x5 o6 tu hp ?_ su
    rw [← hy, mkK_self hwk]; exact wu
  | succ f ih =>
    intro j c x4 x5 o6 nm' x u hj e5 e4 hN tu hp wu su hso hwk hSP hx hy
    obtain ⟨g, M, -, -, ⟨h4, h1024⟩, -⟩ := wu.2.2.2.1
    obtain ⟨z1, z2, kv⟩ := wu.sz (by rw [hso]; decide)
    have hjl : j < ws.length := by omega
    have hd : ws.drop j = ws[j] :: ws.drop (j + 1) := List.drop_eq_getElem_cons hjl
    subst hx
    refine kjZ_y rfl rfl 5 _ _ _ _ tu ?_
    refine (And.intro (tu.k (by decide) rfl) (And.intro (tu.k (by decide) rfl) (And.intro (fun c1 => ?_) (fun c1 => ?_))))
    · refine absurd (show u.1 53 4 ≤ x5 from c1) ?_
      rw [h4, e5, nle (by omega) (by omega)]; omega
    have hv := List.getElem?_eq_getElem hjl
    generalize ws[j] = v at hv hd
    refine kjZ_y rfl rfl 9 _ _ _ _ tu ?_
    refine (And.intro (tu.k (by decide) rfl) (And.intro (tu.k (by decide) rfl) (And.intro (Nat.le_of_ble_eq_true rfl) (And.intro (Or.inl ⟨(Nat.le_of_ble_eq_true rfl), (tu.k (by decide) rfl)⟩) (And.intro (Nat.le_of_ble_eq_true rfl) (And.intro (Nat.le_of_ble_eq_true rfl) (kjY_mono tu (fun q_ u1 ty1 xu1 h_ => ?_) (kx_id tu wu hB hv _ e5))))))))
    obtain ⟨k, nm2, rfl, p2, p3, w1, s1⟩ := h_
    intro _ _
    have kv1 : (u1.2.2.2.1 x.1).1 = 11 := xu1.k tu kv (by decide)
    refine kjZ_y rfl rfl 1 _ _ _ _ ty1 ?_
    refine (And.intro (Nat.le_of_ble_eq_true rfl) (And.intro (Or.inl ⟨(Nat.le_of_ble_eq_true rfl), (ty1.k (by decide) rfl)⟩) (And.intro (Nat.le_of_ble_eq_true rfl) (And.intro (Nat.le_of_ble_eq_true rfl) (kjY_mono ty1 (fun q_ u2 ty2 xu2 h_ => ?_) (kx_plO ty1 w1 hso p2 _ rfl))))))
    obtain ⟨rfl, rfl⟩ := h_
    intro _ _
    have hb8 := KWd.b8o ty2 w1 hso
    have hv8 := w1.2.2.1.1.b8 ty2 p2
    by_cases hf : nmF v x.2.2.2.2.2.2.2.2.2.2 = true
    rotate_left
    · have hE := fdE_n hv8 hb8 hf
      have e1 : rvE 79 v x.2.2.2.2.2.2.2.2.2.2 = x.2.2.2.2.2.2.2.2.2.2 := by unfold rvE rvI; rw [if_pos rfl, hE]
      have e2 : rvN 79 x.2.2.2.2.2.2.2.2.2.2 (v :: ws.drop (j + 1)) = rvN 79 x.2.2.2.2.2.2.2.2.2.2 (ws.drop (j + 1)) := by
        show (match rvI 79 v _ with | some _ => 1 | none => 0) + rvN 79 (rvE 79 v _) _ = _
        rw [e1]; unfold rvI; rw [if_pos rfl, hE]; exact Nat.zero_add _
      rw [if_neg hf]
      have hlt := nm_neg (v := v) (es := x.2.2.2.2.2.2.2.2.2.2) (by omega)
      generalize -1 - nI (nmC v x.2.2.2.2.2.2.2.2.2.2) = x5' at hlt
      refine kjZ_y rfl rfl 3 _ _ _ _ ty2 ?_
      refine (And.intro (Nat.le_of_ble_eq_true rfl) (And.intro (fun c2 => ?_) (fun c2 => ?_)))
      rotate_left
      · exact absurd hlt c2
      refine kjZ_y rfl rfl 2 _ _ _ _ ty2 ?_
      refine ih (j + 1) c x4 _ _ nm2 x u2 (by omega) (by rw [e5]; exact nI_1 j) e4 ?_ ty2 (hp.tr p3) w1 (su.tr s1) hso hwk hSP rfl ?_
      · rw [hd, e2] at hN; exact hN
      · rw [hd] at hy; rw [← hy]
        show mkK x (_, _, _, _, _, rvA 79 _ _) = mkK x (_, _, _, _, _, rvA 79 (rvE 79 v _) _)
        rw [e1]
    · rw [if_pos hf]
      have hcl := nmC_le v x.2.2.2.2.2.2.2.2.2.2
      obtain ⟨x6', e6⟩ : ∃ x6', x6' = nI (nmC v x.2.2.2.2.2.2.2.2.2.2) := ⟨_, rfl⟩
      rw [← e6]
      refine kjZ_y rfl rfl 3 _ _ _ _ ty2 ?_
      refine (And.intro (Nat.le_of_ble_eq_true rfl) (And.intro (fun c2 => ?_) (fun c2 => ?_)))
      · exact absurd (show x6' < 0 from c2) (by rw [e6]; exact nI_n0 (by omega))
      refine kjZ_y rfl rfl 4 _ _ _ _ ty2 ?_
      refine (And.intro (Nat.le_of_ble_eq_true rfl) (And.intro (Or.inl ⟨(Nat.le_of_ble_eq_true rfl), (ty2.k (by decide) rfl)⟩) (And.intro (Nat.le_of_ble_eq_true rfl) (And.intro (Nat.le_of_ble_eq_true rfl) (kjY_mono ty2 (fun q_ u3 ty3 xu3 h_ => ?_) (kx_orem ty2 w1 hso hwk hSP p2 hf _ e6))))))
      obtain ⟨rfl, jj, z, hz1, hz2, w3, s3⟩ := h_
      intro _ _
      have hE := fdE_y hSP hz1 hz2
      have e1 : rvE 79 v x.2.2.2.2.2.2.2.2.2.2 = cutL x.2.2.2.2.2.2.2.2.2.2 jj 1 := by unfold rvE rvI; rw [if_pos rfl, hE]; exact rmE_cut jj _
      have e2 : rvN 79 x.2.2.2.2.2.2.2.2.2.2 (v :: ws.drop (j + 1)) = 1 + rvN 79 (cutL x.2.2.2.2.2.2.2.2.2.2 jj 1) (ws.drop (j + 1)) := by
        show (match rvI 79 v _ with | some _ => 1 | none => 0) + rvN 79 (rvE 79 v _) _ = _
        rw [e1]; unfold rvI; rw [if_pos rfl, hE]
      have kv3 : (u3.2.2.2.1 x.1).1 = 11 := xu3.k ty2 kv1 (by decide)
      refine kjZ_y rfl rfl 3 _ _ _ _ ty3 ?_
      refine ih (j + 1) (c + 1) _ _ _ nm2 (mkK x (esF (fun es => cutL es jj 1) x.2.2.2.2.2)) u3 (by omega) (by rw [e5]; exact nI_1 j) (by rw [e4]; exact nI_1 c) ?_ ty3 (hp.tr p3) w3 ((su.tr s1).tr s3) hso (wkO_mk _ _) (ZP_cut hSP _ _) rfl ?_
      · rw [hd, e2] at hN
        show c + 1 + rvN 79 (cutL _ _ _) _ = N; omega
      · rw [hd] at hy; rw [← hy]
        show mkK x (_, _, _, _, _, rvA 79 (cutL _ _ _) _) = mkK x (_, _, _, _, _, rvA 79 (rvE 79 v _) _)
        rw [e1]; rfl
theorem kx_zrem (ty : kTY σ) (w : KWd σ0 B σ ws nm ks) (hr : RSD ks) (hB : BOK B ws) {j : Nat} (hj : CMD σ j) {v : List Int32} (hv : ws[1]? = some v) (hl2 : 2 ≤ ws.length) (hS : ∀ x ∈ ks, x.2.2.2.2.2.2.1 = 4 → ZP x.2.2.2.2.2.2.2.2.2.2) {o : Option (List AK)} (ho2 : rfZ (σ.1 59 17) ks j v 4 → o = none) (ho3 : ¬ rfZ (σ.1 59 17) ks j v 4 → o = rvF (skA ks) v 79 (ws.drop 2)) :
    kjY kPP (kQQ Y) (d + 7) 242 0 (mjL0 6 [.ref 75]) [] σ (cdP σ0 B σ ws nm ks o) := by
  have hlen := (List.getElem?_eq_some_iff.mp hv).1
  obtain ⟨-, -, -, -, ⟨h4, h1024⟩, -⟩ := w.2.2.2.1
  refine kjZ_y rfl rfl 6 _ _ _ _ ty ?_
  refine (And.intro (ty.k (by decide) rfl) (And.intro (Nat.le_of_ble_eq_true rfl) (And.intro (Or.inl ⟨(Nat.le_of_ble_eq_true rfl), (ty.k (by decide) rfl)⟩) (And.intro (Nat.le_of_ble_eq_true rfl) (And.intro (Nat.le_of_ble_eq_true rfl) (kjY_mono ty (fun q_ u1 ty1 xu1 h_ => ?_) (kx_refuses ty w hB hj (a := 1) (b := 1) (by omega) (by omega) (s := 4) (by decide) _ _ _ rfl rfl rfl)))))))
  obtain ⟨nm1, p1, w1, s1, q⟩ := h_
  intro _ _
  rw [rf1 w hv] at q
  rcases q with ⟨rfl, q⟩ | ⟨rfl, q⟩
  · refine kjZ_y rfl rfl 1 _ _ _ _ ty1 ?_
    refine And.intro (fun c => ?_) (fun c => ?_)
    · exact absurd (show (1 : Int32) = 0 from c) (by decide)
    refine kjZ_y rfl rfl 1 _ _ _ _ ty1 ?_
    refine And.intro rfl (And.intro rfl ?_)
    exact cd_no p1 w1 hr s1.h (ho2 q)
  have ho := ho3 q
  have hso := fun z => q (Or.inr z)
  refine kjZ_y rfl rfl 1 _ _ _ _ ty1 ?_
  refine And.intro (fun c => ?_) (fun c => ?_)
  rotate_left
  · exact absurd rfl c
  refine kjZ_y rfl rfl 4 _ _ _ _ ty1 ?_
  refine (And.intro (ty1.k (by decide) rfl) (And.intro (Nat.le_of_ble_eq_true rfl) (And.intro (Or.inl ⟨(Nat.le_of_ble_eq_true rfl), (ty1.k (by decide) rfl)⟩) (And.intro (Nat.le_of_ble_eq_true rfl) (And.intro (Nat.le_of_ble_eq_true rfl) (kjY_mono ty1 (fun q_ u2 ty2 xu2 h_ => ?_) (kx_id ty1 w1 hB hv _ rfl)))))))
  obtain ⟨k, nm2, rfl, p2, p3, w2, s2⟩ := h_
  intro _ _
  refine kjZ_y rfl rfl 5 _ _ _ _ ty2 ?_
  refine (And.intro (Nat.le_of_ble_eq_true rfl) (And.intro (ty2.k (by decide) rfl) (And.intro (Nat.le_of_ble_eq_true rfl) (And.intro (Or.inl ⟨(Nat.le_of_ble_eq_true rfl), (ty2.k (by decide) rfl)⟩) (And.intro (Nat.le_of_ble_eq_true rfl) (And.intro (Nat.le_of_ble_eq_true rfl) (kjY_mono ty2 (fun q_ u3 ty3 xu3 h_ => ?_) (kx_find ty2 w2 p2 _ rfl))))))))
  obtain ⟨rfl, q3⟩ := h_
  intro _ _
  have sA := s1.tr s2
  have pA := p1.tr p3
  unfold rvF at ho
  -- the answer
  have s54 : ∀ (z : kS) (nm' : List (List Int32)) (ks' : List KC) (o3 : Value) (x4 x5 : Int32) (o6 : Option Value), kTY z → KWd σ0 B z ws nm' ks' → (∀ z2, KWd σ0 B z2 ws nm' ks' → SCl scA z z2 → cdP σ0 B σ ws nm ks o none z2) → kjY kPP (kQQ Y) (d + 7) 242 54 [some (.ref 75), some (.int (nI k)), some o3, some (.int x4), some (.int x5), o6] [] z (cdP σ0 B σ ws nm ks o) := by
    intro z nm' ks' o3 x4 x5 o6 tz wz hz
    obtain ⟨b, hb, eb⟩ := wz.2.2.2.2.2.2.1
    have kb := ob_k tz (ANn_b b (ANb_n b hb)).1
    refine kjZ_y rfl rfl 6 _ _ _ _ tz ?_
    refine (And.intro (tz.k (by decide) rfl) (And.intro (tz.k (by decide) rfl) (Exists.intro _ (And.intro eb (And.intro (Nat.le_of_ble_eq_true rfl) (And.intro (Or.inl ⟨(Nat.le_of_ble_eq_true rfl), (by assumption)⟩) (And.intro (Nat.le_of_ble_eq_true rfl) (And.intro (Nat.le_of_ble_eq_true rfl) (kjY_mono tz (fun q_ u5 ty5 xu5 h_ => ?_) (kx_number tz wz hb _))))))))))
    obtain ⟨rfl, w5, s5⟩ := h_
    intro _ _
    refine kjZ_y rfl rfl 1 _ _ _ _ ty5 ?_
    refine And.intro rfl (And.intro rfl ?_)
    exact hz u5 w5 s5
  rcases q3 with ⟨rfl, q3⟩ | ⟨P, y, Q, rfl, f0, f1, f2⟩
  · have go : kjY kPP (kQQ Y) (d + 7) 242 47 [some (.ref 75), some (.int (nI k)), some .null, some (.int (Int32.ofInt 0)), some (.int (Int32.ofInt 2)), none] [] u3 (cdP σ0 B σ ws nm ks o) := by
      refine kjZ_y rfl rfl 2 _ _ _ _ ty3 ?_
      refine And.intro (fun c2 => ?_) (fun c2 => ?_)
      rotate_left
      · exact absurd (show Int32.ofInt 0 ≤ 0 by decide) c2
      exact s54 u3 _ _ _ _ _ _ ty3 w2 (fun z2 wz sz => cd_no pA wz hr (sA.tr sz).h (by rw [ho, q3]))
    refine kjZ_y rfl rfl 5 _ _ _ _ ty3 ?_
    refine (And.intro (Nat.le_of_ble_eq_true rfl) (And.intro (Nat.le_of_ble_eq_true rfl) (And.intro (Nat.le_of_ble_eq_true rfl) ?_)))
    refine kjZ_y rfl rfl 5 _ _ _ _ ty3 ?_
    refine (And.intro (ty3.k (by decide) rfl) (And.intro (ty3.k (by decide) rfl) (And.intro (fun c2 => ?_) (fun c2 => ?_))))
    · exact go
    refine kjZ_y rfl rfl 2 _ _ _ _ ty3 ?_
    exact go
  · subst f0
    have hs23 : y.2.2.2.2.2.2.1 = 4 := so_1 (s := 4) f2 hso
    have hs0 : ¬ y.2.2.2.2.2.2.1 = 0 := by rw [hs23]; decide
    obtain ⟨z1, z2, kv⟩ := w2.sz hs0
    obtain ⟨r1, r2⟩ := hr.two
    have hSP := hS y (List.mem_append_right _ List.mem_cons_self) hs23
    rw [f2] at ho
    have ho : o = (match (skA (P ++ y :: Q))[P.length]? with | none => none | some a => if rvN 79 a.2.2.2.2.2 (ws.drop 2) = 0 then none else some (stlA (skA (P ++ y :: Q)) P.length (fun es => rvA 79 es (ws.drop 2)))) := ho
    rw [skA_at] at ho
    have ho : o = if rvN 79 y.2.2.2.2.2.2.2.2.2.2 (ws.drop 2) = 0 then none else some (stlA (skA (P ++ y :: Q)) P.length (fun es => rvA 79 es (ws.drop 2))) := ho
    have hle := rvN_le 79 (ws.drop 2) y.2.2.2.2.2.2.2.2.2.2
    rw [List.length_drop] at hle
    refine kjZ_y rfl rfl 5 _ _ _ _ ty3 ?_
    refine (And.intro (Nat.le_of_ble_eq_true rfl) (And.intro (Nat.le_of_ble_eq_true rfl) (And.intro (Nat.le_of_ble_eq_true rfl) ?_)))
    have fin : ∀ (u : kS) (nm' : List (List Int32)) (x5 : Int32) (o6 : Option Value), kTY u → PRE nm2 nm' → KWd σ0 B u ws nm' (P ++ mkK y (esF (fun es => rvA 79 es (ws.drop 2)) y.2.2.2.2.2) :: Q) → SCl scA u3 u → kjY kPP (kQQ Y) (d + 7) 242 47 [some (.ref 75), some (.int (nI k)), some (.ref y.1), some (.int (nI (rvN 79 y.2.2.2.2.2.2.2.2.2.2 (ws.drop 2)))), some (.int x5), o6] [] u (cdP σ0 B σ ws nm (P ++ y :: Q) o) := by
      intro u nm' x5 o6 tu hp wu su
      have kvu : (u.2.2.2.1 y.1).1 = 11 := (wu.sz (x := mkK y (esF (fun es => rvA 79 es (ws.drop 2)) y.2.2.2.2.2)) hs0).2.2
      by_cases cN : rvN 79 y.2.2.2.2.2.2.2.2.2.2 (ws.drop 2) = 0
      · rw [if_pos cN] at ho
        have ey : mkK y (esF (fun es => rvA 79 es (ws.drop 2)) y.2.2.2.2.2) = y := by
          show mkK y (_, _, _, _, _, rvA 79 _ _) = _
          rw [rvN_0 79 _ _ cN]; exact mkK_self r2.1
        rw [ey] at wu
        rw [cN]
        refine kjZ_y rfl rfl 2 _ _ _ _ tu ?_
        refine And.intro (fun c2 => ?_) (fun c2 => ?_)
        rotate_left
        · exact absurd (show nI 0 ≤ 0 by decide) c2
        exact s54 u _ _ _ _ _ _ tu wu (fun z2 wz sz => cd_no (pA.tr hp) wz hr ((sA.tr su).tr sz).h ho)
      · rw [if_neg cN] at ho
        refine kjZ_y rfl rfl 2 _ _ _ _ tu ?_
        refine And.intro (fun c2 => ?_) (fun c2 => ?_)
        · refine absurd (show nI (rvN 79 y.2.2.2.2.2.2.2.2.2.2 (ws.drop 2)) ≤ nI 0 from c2) ?_
          rw [nle (by omega) (by decide)]; omega
        refine kjZ_y rfl rfl 5 _ _ _ _ tu ?_
        refine (And.intro (tu.k (by decide) rfl) (And.intro (Nat.le_of_ble_eq_true rfl) (And.intro (Or.inl ⟨(Nat.le_of_ble_eq_true rfl), (tu.k (by decide) rfl)⟩) (And.intro (Nat.le_of_ble_eq_true rfl) (And.intro (Nat.le_of_ble_eq_true rfl) (kjY_mono tu (fun q_ u5 ty5 xu5 h_ => ?_) (kx_settle (x := mkK y (esF (fun es => rvA 79 es (ws.drop 2)) y.2.2.2.2.2)) tu wu (k := k) (by show nm'[k]? = some y.2.2.2.2.2.1; rw [f1]; exact hp.get p2) _ rfl)))))))
        obtain ⟨q9, q9b⟩ := h_
        intro _ _
        obtain ⟨st1, st2⟩ := stl_k (P := P) (Q := Q) (x := y) (fun es => rvA 79 es (ws.drop 2)) hs0
        obtain ⟨rfl, nmA, ksA, pA5, wA, rA, eA, cA, sA5⟩ := cd_se (σ := σ) (pA.tr hp) ((sA.tr su).g) ⟨q9, q9b⟩ (wkO_mk _ _) r1 st1 st2
        exact s54 u5 _ _ _ _ _ _ ty5 wA (fun z2 wz sz => cd_ok pA5 wz rA eA ((sz (59, 18) (by decide)).1.trans cA) (sA5.tr sz.g) ho)
    refine k_zrem_l (σ := u3) (d := d + 1) _ hB (nI k) y.1 _ _ (fun u nm' x5 o6 tu hp wu su => fin u nm' x5 o6 tu hp wu su) (ws.length - 2) 2 0 _ _ _ nm2 y u3 ?_ rfl rfl (Nat.zero_add _) ty3 PRE.rf w2 SCl.rf hs23 r2.1 hSP rfl rfl
    omega
end KZREM
