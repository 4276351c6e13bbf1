/-! SADD. -/
def ptA : List AE → List (List Int32) → List AE
  | es, [] => es
  | es, v :: r => ptA (ptE v es) r
def ptN : List AE → List (List Int32) → Nat
  | _, [] => 0
  | es, v :: r => (if skT v es = true then 0 else 1) + ptN (ptE v es) r
theorem ptE_yes {v : List Int32} {es : List AE} (h : skT v es = true) : ptE v es = es := if_pos h
theorem ptN_0 : ∀ (r : List (List Int32)) (es : List AE), ptN es r = 0 → ptA es r = es := by
  intro r
  induction r with
  | nil => intro es _; rfl
  | cons v r ih =>
    intro es h
    have h : (if skT v es = true then 0 else 1) + ptN (ptE v es) r = 0 := h
    by_cases c : skT v es = true
    · rw [if_pos c, ptE_yes c, Nat.zero_add] at h
      show ptA (ptE v es) r = es
      rw [ptE_yes c]; exact ih es h
    · rw [if_neg c] at h; omega
theorem ptN_le : ∀ (r : List (List Int32)) (es : List AE), ptN es r ≤ r.length := by
  intro r
  induction r with
  | nil => intro es; exact Nat.le_refl _
  | cons v r ih =>
    intro es
    have := ih (ptE v es)
    show (if skT v es = true then 0 else 1) + ptN (ptE v es) r ≤ r.length + 1
    by_cases c : skT v es = true
    · rw [if_pos c]; omega
    · rw [if_neg c]; omega
theorem ptA_ne : ∀ (r : List (List Int32)) (es : List AE), ptA es r = [] → es = [] ∧ r = [] := by
  intro r
  induction r with
  | nil => intro es h; exact ⟨h, rfl⟩
  | cons v r ih =>
    intro es h
    obtain ⟨h1, -⟩ := ih (ptE v es) h
    exfalso
    by_cases c : skT v es = true
    · rw [ptE_yes c] at h1
      obtain ⟨z, hz, -, -⟩ := skT_at c
      rw [h1] at hz; cases hz
    · rw [ptE_no c] at h1
      have := congrArg List.length h1
      rw [insL_len] at this; cases this
theorem sa_at {w : List Int32} : ∀ (vs : List (List Int32)) (P Q : List KC) (x : KC), kyI (skA (P ++ x :: Q)) w = some P.length → saA w (skA (P ++ x :: Q)) (some P.length) vs = skA (P ++ mkK x (esF (fun es => ptA es vs) x.2.2.2.2.2) :: Q) ∧ saN w (skA (P ++ x :: Q)) (some P.length) vs = ptN x.2.2.2.2.2.2.2.2.2.2 vs := by
  intro vs
  induction vs with
  | nil =>
    intro P Q x _
    refine ⟨?_, rfl⟩
    show skA (P ++ x :: Q) = _
    rw [skA_app, skA_app, skA_cons, skA_cons]; rfl
  | cons v r ih =>
    intro P Q x hk
    have eh : curH (skA (P ++ x :: Q)) (some P.length) v = skT v x.2.2.2.2.2.2.2.2.2.2 := by
      show (match (skA (P ++ x :: Q))[P.length]? with | some a => skT v a.2.2.2.2.2 | none => false) = _
      rw [skA_at]
    have eu : upA (orA (skA (P ++ x :: Q)) w 3).1 (orA (skA (P ++ x :: Q)) w 3).2 (esF (ptE v)) = skA (P ++ mkK x (esF (ptE v) x.2.2.2.2.2) :: Q) ∧ (orA (skA (P ++ x :: Q)) w 3).2 = P.length := by
      rw [orA_some hk]
      refine ⟨?_, rfl⟩
      show upA (skA (P ++ x :: Q)) P.length _ = _
      rw [skA_app, skA_app, skA_cons, skA_cons, ← skA_len P, upA_at]; rfl
    have hk2 : kyI (skA (P ++ mkK x (esF (ptE v) x.2.2.2.2.2) :: Q)) w = some P.length := by
      have : skA (P ++ mkK x (esF (ptE v) x.2.2.2.2.2) :: Q) = upA (skA (P ++ x :: Q)) P.length (esF (ptE v)) := by
        rw [skA_app, skA_app, skA_cons, skA_cons, ← skA_len P, upA_at]; rfl
      rw [this, kyI_up _ _ (esF (ptE v)) (fun _ => rfl)]; exact hk
    obtain ⟨i1, i2⟩ := ih P Q (mkK x (esF (ptE v) x.2.2.2.2.2)) hk2
    have e1 : saA w (skA (P ++ x :: Q)) (some P.length) (v :: r) = if curH (skA (P ++ x :: Q)) (some P.length) v = true then saA w (skA (P ++ x :: Q)) (some P.length) r else saA w (upA (orA (skA (P ++ x :: Q)) w 3).1 (orA (skA (P ++ x :: Q)) w 3).2 (esF (ptE v))) (some (orA (skA (P ++ x :: Q)) w 3).2) r := rfl
    have e2 : saN w (skA (P ++ x :: Q)) (some P.length) (v :: r) = if curH (skA (P ++ x :: Q)) (some P.length) v = true then saN w (skA (P ++ x :: Q)) (some P.length) r else saN w (upA (orA (skA (P ++ x :: Q)) w 3).1 (orA (skA (P ++ x :: Q)) w 3).2 (esF (ptE v))) (some (orA (skA (P ++ x :: Q)) w 3).2) r + 1 := rfl
    rw [e1, e2, eh, eu.1, eu.2]
    have en : ptN x.2.2.2.2.2.2.2.2.2.2 (v :: r) = (if skT v x.2.2.2.2.2.2.2.2.2.2 = true then 0 else 1) + ptN (ptE v x.2.2.2.2.2.2.2.2.2.2) r := rfl
    by_cases c : skT v x.2.2.2.2.2.2.2.2.2.2 = true
    · obtain ⟨j1, j2⟩ := ih P Q x hk
      rw [if_pos c, if_pos c, en, if_pos c, ptE_yes c, j1, j2]
      refine ⟨?_, (Nat.zero_add _).symm⟩
      rw [skA_app, skA_app, skA_cons, skA_cons]
      show skA P ++ (_, _, _, _, _, ptA _ r) :: skA Q = skA P ++ (_, _, _, _, _, ptA (ptE v _) r) :: skA Q
      rw [ptE_yes c]
    · rw [if_neg c, if_neg c, en, if_neg c, i1, i2]
      exact ⟨rfl, Nat.add_comm _ _⟩
section KSADD
variable {Y : Nat → MethodName × ByteArray} {d : Nat} {σ0 σ u : kS} {B ws nm nm' : List (List Int32)} {ks : List KC}
theorem k_madd_l (K : kK) (hB : BOK B ws) {P Q : List KC} {C : Nat} (hC : 3 * C ≤ 49000) (x1 : Int32) (v0 : Nat) (y0 : KC) (N : Nat)
    (hK : ∀ u nm' x4, kTY u → PRE nm nm' → KWd σ0 B u ws nm' (P ++ y0 :: Q) → SCl scA σ u → kjY kPP (kQQ Y) (d + 6) 219 39 [some (.ref 71), some (.int x1), some (.ref v0), some (.int (nI N)), some (.int x4)] [] u K) :
    ∀ (f j c : Nat) (x3 x4 : Int32) (nm' : List (List Int32)) (x : KC) (u : kS), j + f = ws.length → x4 = nI j → x3 = nI c → c + ptN x.2.2.2.2.2.2.2.2.2.2 (ws.drop j) = N → kTY u → PRE nm nm' → KWd σ0 B u ws nm' (P ++ x :: Q) → SCl scA σ u → x.2.2.2.2.2.2.1 = 3 → wkO x → SP x.2.2.2.2.2.2.2.2.2.2 → x.1 = v0 → clA (skA (P ++ x :: Q)) + f ≤ C → mkK x (esF (fun es => ptA es (ws.drop j)) x.2.2.2.2.2) = y0 →
    kjY kPP (kQQ Y) (d + 6) 219 23 [some (.ref 71), some (.int x1), some (.ref v0), some (.int x3), some (.int x4)] [] u K := by
  intro f
  induction f with
  | zero =>
    intro j c x3 x4 nm' x u hj e4 e3 hN tu hp wu su hso hwk hSP hx hcl hy
    obtain ⟨g, M, -, -, ⟨h4, h1024⟩, -⟩ := wu.2.2.2.1
    obtain ⟨z1, z2, kv⟩ := wu.sz (by rw [hso]; decide)
    rw [hx] at kv
    rw [List.drop_eq_nil_of_le (by omega)] at hN hy
    have hN : c + 0 = N := hN
    have hy : mkK x x.2.2.2.2.2 = y0 := hy
    refine kjZ_y rfl rfl 5 _ _ _ _ tu ?_
    refine (And.intro (tu.k (by decide) rfl) (And.intro (tu.k (by decide) rfl) (And.intro (fun c1 => ?_) (fun c1 => ?_))))
    rotate_left
    · refine absurd (show u.1 53 4 ≤ x4 from ?_) c1
      rw [h4, e4, nle (by omega) (by omega)]; omega
    have e : x3 = nI N := by rw [e3]; congr 1
    rw [e]
    refine hK u nm' x4 tu hp ?_ su
    rw [← hy, mkK_self hwk]; exact wu
  | succ f ih =>
    intro j c x3 x4 nm' x u hj e4 e3 hN tu hp wu su hso hwk hSP hx hcl hy
    obtain ⟨g, M, -, -, ⟨h4, h1024⟩, -⟩ := wu.2.2.2.1
    obtain ⟨z1, z2, kv⟩ := wu.sz (by rw [hso]; decide)
    have hjl : j < ws.length := by omega
    have hd : ws.drop j = ws[j] :: ws.drop (j + 1) := List.drop_eq_getElem_cons hjl
    subst hx
    refine kjZ_y rfl rfl 5 _ _ _ _ tu ?_
    refine (And.intro (tu.k (by decide) rfl) (And.intro (tu.k (by decide) rfl) (And.intro (fun c1 => ?_) (fun c1 => ?_))))
    · refine absurd (show u.1 53 4 ≤ x4 from c1) ?_
      rw [h4, e4, nle (by omega) (by omega)]; omega
    have hv := List.getElem?_eq_getElem hjl
    generalize ws[j] = v at hv hd
    refine kjZ_y rfl rfl 6 _ _ _ _ tu ?_
    refine (And.intro (tu.k (by decide) rfl) (And.intro (Nat.le_of_ble_eq_true rfl) (And.intro (Or.inl ⟨(Nat.le_of_ble_eq_true rfl), (tu.k (by decide) rfl)⟩) (And.intro (Nat.le_of_ble_eq_true rfl) (And.intro (Nat.le_of_ble_eq_true rfl) (kjY_mono tu (fun q_ u1 ty1 xu1 h_ => ?_) (kx_id tu wu hB hv _ e4)))))))
    obtain ⟨k, nm2, rfl, p2, p3, w1, s1⟩ := h_
    intro _ _
    have kv1 : (u1.2.2.2.1 x.1).1 = 11 := xu1.k tu kv (by decide)
    have hpt : ptI x.2.2.2.2.2.2.1 = 1 := by rw [hso]; rfl
    have hlx : x.2.2.2.2.2.2.2.2.2.2.length ≤ clA (skA (P ++ x :: Q)) := by rw [clA_at, hpt]; omega
    refine kjZ_y rfl rfl 1 _ _ _ _ ty1 ?_
    refine (And.intro (Nat.le_of_ble_eq_true rfl) (And.intro (Or.inl ⟨(Nat.le_of_ble_eq_true rfl), (ty1.k (by decide) rfl)⟩) (And.intro (Nat.le_of_ble_eq_true rfl) (And.intro (Nat.le_of_ble_eq_true rfl) (kjY_mono ty1 (fun q_ u2 ty2 xu2 h_ => ?_) (kx_addM ty1 w1 hso hwk hSP p2 (by omega) _ rfl))))))
    have q := h_
    intro _ _
    have en : ptN x.2.2.2.2.2.2.2.2.2.2 (v :: ws.drop (j + 1)) = (if skT v x.2.2.2.2.2.2.2.2.2.2 = true then 0 else 1) + ptN (ptE v x.2.2.2.2.2.2.2.2.2.2) (ws.drop (j + 1)) := rfl
    rw [hd, en] at hN
    rw [hd] at hy
    rcases q with ⟨q1, rfl, rfl⟩ | ⟨q1, rfl, q3, q4⟩
    · rw [if_pos q1, ptE_yes q1, Nat.zero_add] at hN
      refine kjZ_y rfl rfl 1 _ _ _ _ ty2 ?_
      refine And.intro (fun c2 => ?_) (fun c2 => ?_)
      rotate_left
      · exact absurd rfl c2
      refine kjZ_y rfl rfl 2 _ _ _ _ ty2 ?_
      refine ih (j + 1) c x3 _ nm2 x u2 (by omega) (by rw [e4]; exact nI_1 j) e3 hN ty2 (hp.tr p3) w1 (su.tr s1) hso hwk hSP rfl (by omega) ?_
      rw [← hy]
      show mkK x (_, _, _, _, _, ptA _ _) = mkK x (_, _, _, _, _, ptA (ptE v _) _)
      rw [ptE_yes q1]
    · rw [if_neg q1] at hN
      have kv2 : (u2.2.2.2.1 x.1).1 = 11 := xu2.k ty1 kv1 (by decide)
      refine kjZ_y rfl rfl 1 _ _ _ _ ty2 ?_
      refine And.intro (fun c2 => ?_) (fun c2 => ?_)
      · exact absurd (show (1 : Int32) = 0 from c2) (by decide)
      refine kjZ_y rfl rfl 3 _ _ _ _ ty2 ?_
      refine ih (j + 1) (c + 1) _ _ nm2 (mkK x (esF (ptE v) x.2.2.2.2.2)) u2 (by omega) (by rw [e4]; exact nI_1 j) (by rw [e3]; exact nI_1 c) ?_ ty2 (hp.tr p3) q3 ((su.tr s1).tr q4) hso (wkO_mk _ _) (pt_SP hSP) rfl ?_ ?_
      · show c + 1 + ptN (ptE v _) _ = N; omega
      · rw [clA_at, hpt] at hcl
        rw [clA_at]
        show clA (skA P) + ptI x.2.2.2.2.2.2.1 * (ptE v x.2.2.2.2.2.2.2.2.2.2).length + _ + f ≤ C
        rw [hpt, ptE_no q1, insL_len]; omega
      · rw [← hy]; rfl
theorem kx_sadd (ty : kTY σ) (w : KWd σ0 B σ ws nm ks) (hr : RSD ks) (hB : BOK B ws) {j : Nat} (hj : CMD σ j) {v : List Int32} (hv : ws[1]? = some v) (hl2 : 3 ≤ ws.length) (hS : ∀ x ∈ ks, x.2.2.2.2.2.2.1 = 3 → SP x.2.2.2.2.2.2.2.2.2.2) (hk1 : ks.length + 1 ≤ 2600) (hcl : 3 * (clA (skA ks) + ws.length) ≤ 49000) {o : Option (List AK)} (ho2 : rfZ (σ.1 59 17) ks j v 3 → o = none) (ho3 : ¬ rfZ (σ.1 59 17) ks j v 3 → o = saF (skA ks) v (ws.drop 2)) :
    kjY kPP (kQQ Y) (d + 7) 219 0 (mjL0 5 [.ref 71]) [] σ (cdP σ0 B σ ws nm ks o) := by
  have hlen := (List.getElem?_eq_some_iff.mp hv).1
  refine kjZ_y rfl rfl 6 _ _ _ _ ty ?_
  refine (And.intro (ty.k (by decide) rfl) (And.intro (Nat.le_of_ble_eq_true rfl) (And.intro (Or.inl ⟨(Nat.le_of_ble_eq_true rfl), (ty.k (by decide) rfl)⟩) (And.intro (Nat.le_of_ble_eq_true rfl) (And.intro (Nat.le_of_ble_eq_true rfl) (kjY_mono ty (fun q_ u1 ty1 xu1 h_ => ?_) (kx_refuses ty w hB hj (a := 1) (b := 1) (by omega) (by omega) (s := 3) (by decide) _ _ _ rfl rfl rfl)))))))
  obtain ⟨nm1, p1, w1, s1, q⟩ := h_
  intro _ _
  rw [rf1 w hv] at q
  rcases q with ⟨rfl, q⟩ | ⟨rfl, q⟩
  · refine kjZ_y rfl rfl 1 _ _ _ _ ty1 ?_
    refine And.intro (fun c => ?_) (fun c => ?_)
    · exact absurd (show (1 : Int32) = 0 from c) (by decide)
    refine kjZ_y rfl rfl 1 _ _ _ _ ty1 ?_
    refine And.intro rfl (And.intro rfl ?_)
    exact cd_no p1 w1 hr s1.h (ho2 q)
  have ho := ho3 q
  have hso := fun z => q (Or.inr z)
  refine kjZ_y rfl rfl 1 _ _ _ _ ty1 ?_
  refine And.intro (fun c => ?_) (fun c => ?_)
  rotate_left
  · exact absurd rfl c
  refine kjZ_y rfl rfl 4 _ _ _ _ ty1 ?_
  refine (And.intro (ty1.k (by decide) rfl) (And.intro (Nat.le_of_ble_eq_true rfl) (And.intro (Or.inl ⟨(Nat.le_of_ble_eq_true rfl), (ty1.k (by decide) rfl)⟩) (And.intro (Nat.le_of_ble_eq_true rfl) (And.intro (Nat.le_of_ble_eq_true rfl) (kjY_mono ty1 (fun q_ u2 ty2 xu2 h_ => ?_) (kx_id ty1 w1 hB hv _ rfl)))))))
  obtain ⟨k, nm2, rfl, p2, p3, w2, s2⟩ := h_
  intro _ _
  refine kjZ_y rfl rfl 6 _ _ _ _ ty2 ?_
  refine (And.intro (Nat.le_of_ble_eq_true rfl) (And.intro (ty2.k (by decide) rfl) (And.intro (Nat.le_of_ble_eq_true rfl) (And.intro (Or.inl ⟨(Nat.le_of_ble_eq_true rfl), (ty2.k (by decide) rfl)⟩) (And.intro (Nat.le_of_ble_eq_true rfl) (And.intro (Nat.le_of_ble_eq_true rfl) (kjY_mono ty2 (fun q_ u3 ty3 xu3 h_ => ?_) (kx_orMake ty2 w2 p2 (s := 3) (by decide) (fun _ => hk1) _ _ rfl rfl))))))))
  obtain ⟨P, x, Q, rfl, w3, s3, g1, g2⟩ := h_
  intro _ _
  have sA := (s1.tr s2).tr s3
  have pA := p1.tr p3
  have hs3 : x.2.2.2.2.2.2.1 = 3 := by
    rcases g2 with ⟨rfl, f2⟩ | ⟨-, -, -, -, -, g⟩
    · exact so_1 (s := 3) f2 hso
    · rw [g]; rfl
  have hs0 : ¬ x.2.2.2.2.2.2.1 = 0 := by rw [hs3]; decide
  have hSP : SP x.2.2.2.2.2.2.2.2.2.2 := by
    rcases g2 with ⟨rfl, f2⟩ | ⟨-, -, -, -, -, g⟩
    · exact hS x (List.mem_append_right _ List.mem_cons_self) hs3
    · rw [g]; exact List.Pairwise.nil
  have hrs : RSD (P ++ Q) ∧ wkO x := by
    rcases g2 with ⟨rfl, f2⟩ | ⟨g3, -, -, g4, -, g⟩
    · exact ⟨hr.two.1, hr.two.2.1⟩
    · rw [← g3]; refine ⟨hr, ?_⟩; unfold wkO; rw [g4, g]; rfl
  have hclx : clA (skA (P ++ x :: Q)) ≤ clA (skA ks) := by
    rcases g2 with ⟨rfl, f2⟩ | ⟨g3, -, -, g4, -, g⟩
    · exact Nat.le_refl _
    · rw [clA_at, g3, clA_app, g]; show _ + _ * 0 + _ ≤ _; omega
  have hky : kyI (skA (P ++ x :: Q)) v = some P.length := by rw [← g1]; exact ky_k w3.srt
  -- the reference's list
  have hsa : saA v (skA ks) (kyI (skA ks) v) (ws.drop 2) = saA v (skA (P ++ x :: Q)) (some P.length) (ws.drop 2) ∧ saN v (skA ks) (kyI (skA ks) v) (ws.drop 2) = saN v (skA (P ++ x :: Q)) (some P.length) (ws.drop 2) := by
    rcases g2 with ⟨rfl, f2⟩ | ⟨g3, g4, g5, -, -, g⟩
    · rw [f2]; exact ⟨rfl, rfl⟩
    · have hd : ws.drop 2 = ws[2] :: ws.drop 3 := List.drop_eq_getElem_cons (by omega)
      have e : orA (skA ks) v 3 = (skA (P ++ x :: Q), P.length) := by
        rw [orA_none g4, ← g5, g3, skA_app]
        unfold inA
        have el : P.length = (skA P).length := (skA_len P).symm
        rw [el, List.take_left, List.drop_left, skA_app, skA_cons, g]; rfl
      have e2 : orA (skA (P ++ x :: Q)) v 3 = (skA (P ++ x :: Q), P.length) := orA_some hky
      have ec : curH (skA (P ++ x :: Q)) (some P.length) ws[2] = false := by
        show (match (skA (P ++ x :: Q))[P.length]? with | some a => skT _ a.2.2.2.2.2 | none => false) = _
        rw [skA_at, g]; rfl
      rw [hd, g4]
      constructor
      · show (if false = true then _ else saA v (upA (orA (skA ks) v 3).1 (orA (skA ks) v 3).2 (esF (ptE ws[2]))) (some (orA (skA ks) v 3).2) (ws.drop 3)) = (if curH (skA (P ++ x :: Q)) (some P.length) ws[2] = true then _ else saA v (upA (orA (skA (P ++ x :: Q)) v 3).1 (orA (skA (P ++ x :: Q)) v 3).2 (esF (ptE ws[2]))) (some (orA (skA (P ++ x :: Q)) v 3).2) (ws.drop 3))
        rw [ec, e, e2, if_neg Bool.false_ne_true, if_neg Bool.false_ne_true]
      · show (if false = true then _ else saN v (upA (orA (skA ks) v 3).1 (orA (skA ks) v 3).2 (esF (ptE ws[2]))) (some (orA (skA ks) v 3).2) (ws.drop 3) + 1) = (if curH (skA (P ++ x :: Q)) (some P.length) ws[2] = true then _ else saN v (upA (orA (skA (P ++ x :: Q)) v 3).1 (orA (skA (P ++ x :: Q)) v 3).2 (esF (ptE ws[2]))) (some (orA (skA (P ++ x :: Q)) v 3).2) (ws.drop 3) + 1)
        rw [ec, e, e2, if_neg Bool.false_ne_true, if_neg Bool.false_ne_true]
  obtain ⟨sa1, sa2⟩ := sa_at (w := v) (ws.drop 2) P Q x hky
  have hoN : o = if ptN x.2.2.2.2.2.2.2.2.2.2 (ws.drop 2) = 0 then none else some (skA (P ++ mkK x (esF (fun es => ptA es (ws.drop 2)) x.2.2.2.2.2) :: Q)) := by
    rw [ho]; unfold saF; rw [hsa.1, hsa.2, sa1, sa2]
  have kv3 := (w3.sz hs0).2.2
  -- the answer
  have s46 : ∀ (z : kS) (nm' : List (List Int32)) (ks' : List KC) (x3 x4 : Int32), kTY z → KWd σ0 B z ws nm' ks' → (∀ z2, KWd σ0 B z2 ws nm' ks' → SCl scA z z2 → cdP σ0 B σ ws nm ks o none z2) → kjY kPP (kQQ Y) (d + 7) 219 46 [some (.ref 71), some (.int (nI k)), some (.ref x.1), some (.int x3), some (.int x4)] [] z (cdP σ0 B σ ws nm ks o) := by
    intro z nm' ks' x3 x4 tz wz hz
    obtain ⟨b, hb, eb⟩ := wz.2.2.2.2.2.2.1
    have kb := ob_k tz (ANn_b b (ANb_n b hb)).1
    refine kjZ_y rfl rfl 6 _ _ _ _ tz ?_
    refine (And.intro (tz.k (by decide) rfl) (And.intro (tz.k (by decide) rfl) (Exists.intro _ (And.intro eb (And.intro (Nat.le_of_ble_eq_true rfl) (And.intro (Or.inl ⟨(Nat.le_of_ble_eq_true rfl), (by assumption)⟩) (And.intro (Nat.le_of_ble_eq_true rfl) (And.intro (Nat.le_of_ble_eq_true rfl) (kjY_mono tz (fun q_ u5 ty5 xu5 h_ => ?_) (kx_number tz wz hb _))))))))))
    obtain ⟨rfl, w5, s5⟩ := h_
    intro _ _
    refine kjZ_y rfl rfl 1 _ _ _ _ ty5 ?_
    refine And.intro rfl (And.intro rfl ?_)
    exact hz u5 w5 s5
  have hple := ptN_le (ws.drop 2) x.2.2.2.2.2.2.2.2.2.2
  rw [List.length_drop] at hple
  obtain ⟨-, -, -, -, ⟨h4, h1024⟩, -⟩ := w.2.2.2.1
  refine kjZ_y rfl rfl 5 _ _ _ _ ty3 ?_
  refine (And.intro (Nat.le_of_ble_eq_true rfl) (And.intro (Nat.le_of_ble_eq_true rfl) (And.intro (Nat.le_of_ble_eq_true rfl) ?_)))
  refine k_madd_l (σ := u3) (d := d + 1) _ hB (C := clA (skA ks) + ws.length) (by omega) (nI k) x.1 _ _ (fun u nm' x4 tu hp wu su => ?_) (ws.length - 2) 2 0 _ _ nm2 x u3 (by omega) rfl rfl (Nat.zero_add _) ty3 PRE.rf w3 SCl.rf hs3 hrs.2 hSP rfl (by omega) rfl
  have kvu : (u.2.2.2.1 x.1).1 = 11 := (wu.sz (x := mkK x (esF (fun es => ptA es (ws.drop 2)) x.2.2.2.2.2)) hs0).2.2
  by_cases cN : ptN x.2.2.2.2.2.2.2.2.2.2 (ws.drop 2) = 0
  · rw [if_pos cN] at hoN
    have eA : ptA x.2.2.2.2.2.2.2.2.2.2 (ws.drop 2) = x.2.2.2.2.2.2.2.2.2.2 := ptN_0 _ _ cN
    have ex : mkK x (esF (fun es => ptA es (ws.drop 2)) x.2.2.2.2.2) = x := by
      show mkK x (_, _, _, _, _, ptA _ _) = _
      rw [eA]; exact mkK_self hrs.2
    rw [ex] at wu
    rcases g2 with ⟨rfl, f2⟩ | ⟨g3, g4, g5, -, -, g⟩
    · rw [cN]
      refine kjZ_y rfl rfl 2 _ _ _ _ tu ?_
      refine And.intro (fun c2 => ?_) (fun c2 => ?_)
      rotate_left
      · exact absurd (show nI 0 ≤ 0 by decide) c2
      exact s46 u _ _ _ _ tu wu (fun z2 wz sz => cd_no (pA.tr hp) wz hr ((sA.tr su).tr sz).h hoN)
    · exfalso
      have e0 : x.2.2.2.2.2.2.2.2.2.2 = [] := by rw [g]
      rw [e0] at eA
      have := (ptA_ne _ _ eA).2
      have := congrArg List.length this
      rw [List.length_drop, List.length_nil] at this; omega
  · rw [if_neg cN] at hoN
    have hne : ¬ emB (mkK x (esF (fun es => ptA es (ws.drop 2)) x.2.2.2.2.2)) := fun z => by
      have := (ptA_ne _ _ z.2).2
      have := congrArg List.length this
      rw [List.length_drop, List.length_nil] at this; omega
    refine kjZ_y rfl rfl 2 _ _ _ _ tu ?_
    refine And.intro (fun c2 => ?_) (fun c2 => ?_)
    · refine absurd (show nI (ptN x.2.2.2.2.2.2.2.2.2.2 (ws.drop 2)) ≤ nI 0 from c2) ?_
      rw [nle (by omega) (by decide)]; omega
    refine kjZ_y rfl rfl 5 _ _ _ _ tu ?_
    refine (And.intro (tu.k (by decide) rfl) (And.intro (Nat.le_of_ble_eq_true rfl) (And.intro (Or.inl ⟨(Nat.le_of_ble_eq_true rfl), (tu.k (by decide) rfl)⟩) (And.intro (Nat.le_of_ble_eq_true rfl) (And.intro (Nat.le_of_ble_eq_true rfl) (kjY_mono tu (fun q_ u5 ty5 xu5 h_ => ?_) (kx_settle (x := mkK x (esF (fun es => ptA es (ws.drop 2)) x.2.2.2.2.2)) tu wu (k := k) (by show nm'[k]? = some x.2.2.2.2.2.1; rw [g1]; exact hp.get p2) _ rfl)))))))
    obtain ⟨q9, q9b⟩ := h_
    intro _ _
    obtain ⟨rfl, nmA, ksA, pA5, wA, rA, eA, cA, sA5⟩ := cd_se (σ := σ) (pA.tr hp) ((sA.tr su).g) ⟨q9, q9b⟩ (wkO_mk _ _) hrs.1 (fun z => absurd z hne) (fun _ => rfl)
    exact s46 u5 _ _ _ _ ty5 wA (fun z2 wz sz => cd_ok pA5 wz rA eA ((sz (59, 18) (by decide)).1.trans cA) (sA5.tr sz.g) hoN)
end KSADD
