/-! ZADD's pairs. -/
def zeI (es : List AE) (v : List Int32) : Option (Nat × Int64) := match fdE v es with
  | none => none
  | some i => (match es[i]? with
    | some z => some (i, z.2.2)
    | none => none)
def zeN (es : List AE) (o : Option (Nat × Int64)) (sc : Int64) (v : List Int32) : List AE := match o with
  | some q => rkE sc v (rmE q.1 es)
  | none => rkE sc v es
def zeA (nx xx gt lt : Int32) : List AE → List (List Int32) → List AE
  | es, s :: v :: r => (match intF s with
    | none => es
    | some s0 => if zGo nx xx gt lt (zeI es v) s0 = true then zeA nx xx gt lt (zeN es (zeI es v) s0 v) r else zeA nx xx gt lt es r)
  | es, _ => es
def zeC (nx xx gt lt : Int32) : List AE → List (List Int32) → Nat
  | es, s :: v :: r => (match intF s with
    | none => 0
    | some s0 => if zGo nx xx gt lt (zeI es v) s0 = true then zeC nx xx gt lt (zeN es (zeI es v) s0 v) r + 1 else zeC nx xx gt lt es r)
  | _, _ => 0
theorem zeA_1 {nx xx gt lt : Int32} {es : List AE} {s v : List Int32} {r : List (List Int32)} {s0 : Int64} (h : intF s = some s0) : (zGo nx xx gt lt (zeI es v) s0 = true → zeA nx xx gt lt es (s :: v :: r) = zeA nx xx gt lt (zeN es (zeI es v) s0 v) r ∧ zeC nx xx gt lt es (s :: v :: r) = zeC nx xx gt lt (zeN es (zeI es v) s0 v) r + 1) ∧ (¬ zGo nx xx gt lt (zeI es v) s0 = true → zeA nx xx gt lt es (s :: v :: r) = zeA nx xx gt lt es r ∧ zeC nx xx gt lt es (s :: v :: r) = zeC nx xx gt lt es r) := by
  refine ⟨fun c => ⟨?_, ?_⟩, fun c => ⟨?_, ?_⟩⟩
  · rw [zeA, h]; exact if_pos c
  · rw [zeC, h]; exact if_pos c
  · rw [zeA, h]; exact if_neg c
  · rw [zeC, h]; exact if_neg c
theorem zIx_k {P Q : List KC} {x : KC} {v : List Int32} : zIx (skA (P ++ x :: Q)) (some P.length) v = zeI x.2.2.2.2.2.2.2.2.2.2 v := by
  unfold zIx zeI; simp only [skA_at]
  cases fdE v x.2.2.2.2.2.2.2.2.2.2 with
  | none => rfl
  | some i =>
    show (match x.2.2.2.2.2.2.2.2.2.2[i]? with | some z => some (i, z.2.2) | none => none) = (match x.2.2.2.2.2.2.2.2.2.2[i]? with | some z => some (i, z.2.2) | none => none)
    cases x.2.2.2.2.2.2.2.2.2.2[i]? <;> rfl
theorem zNew_k {P Q : List KC} {x : KC} {v w : List Int32} {sc : Int64} (hky : kyI (skA (P ++ x :: Q)) w = some P.length) : zNew (skA (P ++ x :: Q)) w (some P.length) (zeI x.2.2.2.2.2.2.2.2.2.2 v) sc v = (skA (P ++ mkK x (esF (fun es => zeN es (zeI es v) sc v) x.2.2.2.2.2) :: Q), P.length) := by
  have e : skA (P ++ mkK x (esF (fun es => zeN es (zeI es v) sc v) x.2.2.2.2.2) :: Q) = upA (skA (P ++ x :: Q)) P.length (esF (fun es => zeN es (zeI es v) sc v)) := by
    rw [skA_app, skA_app, skA_cons, skA_cons, ← skA_len P, upA_at]; rfl
  rw [e]
  have e2 : ∀ f g : AK → AK, f x.2.2.2.2.2 = g x.2.2.2.2.2 → upA (skA (P ++ x :: Q)) P.length f = upA (skA (P ++ x :: Q)) P.length g := by
    intro f g h
    rw [skA_app, skA_cons, ← skA_len P, upA_at, upA_at, h]
  cases h : zeI x.2.2.2.2.2.2.2.2.2.2 v with
  | none =>
    show (upA (orA (skA (P ++ x :: Q)) w 4).1 (orA (skA (P ++ x :: Q)) w 4).2 (esF (rkE sc v)), (orA (skA (P ++ x :: Q)) w 4).2) = _
    rw [orA_some hky]
    show (upA (skA (P ++ x :: Q)) P.length (esF (rkE sc v)), P.length) = _
    rw [e2 _ (esF (fun es => zeN es (zeI es v) sc v))]
    show (_, _, _, _, _, rkE sc v _) = (_, _, _, _, _, zeN _ (zeI _ v) sc v)
    rw [h]; rfl
  | some q =>
    show (upA (skA (P ++ x :: Q)) P.length (fun a => esF (rkE sc v) (esF (rmE q.1) a)), P.length) = _
    rw [e2 _ (esF (fun es => zeN es (zeI es v) sc v))]
    show (_, _, _, _, _, rkE sc v (rmE q.1 _)) = (_, _, _, _, _, zeN _ (zeI _ v) sc v)
    rw [h]; rfl
theorem zSc_0 (nx : Int32) (o : Option (Nat × Int64)) (s : Int64) : zSc nx 0 o s = s := by
  cases o with
  | none => rfl
  | some q =>
    show (if (¬ (0 : Int32) = 0) ∧ nx = 0 then q.2 + s else s) = s
    exact if_neg (fun z => z.1 rfl)
theorem zaA_k {nx xx gt lt : Int32} {w : List Int32} {P Q : List KC} : ∀ (n : Nat) (r : List (List Int32)) (x : KC), r.length ≤ n → wkO x → kyI (skA (P ++ x :: Q)) w = some P.length → zaA nx xx gt lt 0 w (skA (P ++ x :: Q)) (some P.length) r = skA (P ++ mkK x (esF (fun es => zeA nx xx gt lt es r) x.2.2.2.2.2) :: Q) ∧ zaN nx xx gt lt 0 w (skA (P ++ x :: Q)) (some P.length) r = zeC nx xx gt lt x.2.2.2.2.2.2.2.2.2.2 r := by
  intro n
  induction n with
  | zero =>
    intro r x hl hk hy
    have : r = [] := List.length_eq_zero_iff.mp (by omega)
    subst this
    refine ⟨?_, rfl⟩
    show skA (P ++ x :: Q) = skA (P ++ mkK x x.2.2.2.2.2 :: Q)
    rw [mkK_self hk]
  | succ n ih =>
    intro r x hl hk hy
    match r, hl with
    | [], _ =>
      refine ⟨?_, rfl⟩
      show skA (P ++ x :: Q) = skA (P ++ mkK x x.2.2.2.2.2 :: Q)
      rw [mkK_self hk]
    | [s], _ =>
      refine ⟨?_, rfl⟩
      show skA (P ++ x :: Q) = skA (P ++ mkK x x.2.2.2.2.2 :: Q)
      rw [mkK_self hk]
    | s :: v :: r, hl =>
      have hl : r.length + 2 ≤ n + 1 := hl
      cases hi : intF s with
      | none =>
        have e1 : zeA nx xx gt lt x.2.2.2.2.2.2.2.2.2.2 (s :: v :: r) = x.2.2.2.2.2.2.2.2.2.2 := by rw [zeA, hi]
        have e2 : zeC nx xx gt lt x.2.2.2.2.2.2.2.2.2.2 (s :: v :: r) = 0 := by rw [zeC, hi]
        rw [e2, zaA, zaN, hi]
        refine ⟨?_, rfl⟩
        show skA (P ++ x :: Q) = skA (P ++ mkK x (_, _, _, _, _, zeA nx xx gt lt x.2.2.2.2.2.2.2.2.2.2 (s :: v :: r)) :: Q)
        rw [e1]
        show skA (P ++ x :: Q) = skA (P ++ mkK x x.2.2.2.2.2 :: Q)
        rw [mkK_self hk]
      | some s0 =>
        rw [zaA, zaN, hi]
        show (if zGo nx xx gt lt (zIx (skA (P ++ x :: Q)) (some P.length) v) (zSc nx 0 (zIx (skA (P ++ x :: Q)) (some P.length) v) s0) = true then _ else _) = _ ∧ (if zGo nx xx gt lt (zIx (skA (P ++ x :: Q)) (some P.length) v) (zSc nx 0 (zIx (skA (P ++ x :: Q)) (some P.length) v) s0) = true then _ else _) = _
        rw [zSc_0, zIx_k, zNew_k hy]
        obtain ⟨g1, g2⟩ := zeA_1 (nx := nx) (xx := xx) (gt := gt) (lt := lt) (es := x.2.2.2.2.2.2.2.2.2.2) (v := v) (r := r) hi
        by_cases c : zGo nx xx gt lt (zeI x.2.2.2.2.2.2.2.2.2.2 v) s0 = true
        · obtain ⟨g3, g4⟩ := g1 c
          rw [if_pos c, if_pos c, g4]
          have hy2 : kyI (skA (P ++ mkK x (esF (fun es => zeN es (zeI es v) s0 v) x.2.2.2.2.2) :: Q)) w = some P.length := by
            have e : skA (P ++ mkK x (esF (fun es => zeN es (zeI es v) s0 v) x.2.2.2.2.2) :: Q) = upA (skA (P ++ x :: Q)) P.length (esF (fun es => zeN es (zeI es v) s0 v)) := by
              rw [skA_app, skA_app, skA_cons, skA_cons, ← skA_len P, upA_at]; rfl
            rw [e, kyI_up (skA (P ++ x :: Q)) P.length (esF (fun es => zeN es (zeI es v) s0 v)) (fun _ => rfl) w]; exact hy
          obtain ⟨i1, i2⟩ := ih r (mkK x (esF (fun es => zeN es (zeI es v) s0 v) x.2.2.2.2.2)) (by omega) (wkO_mk _ _) hy2
          refine ⟨i1.trans ?_, by rw [i2]; rfl⟩
          show skA (P ++ mkK _ (_, _, _, _, _, zeA nx xx gt lt (zeN x.2.2.2.2.2.2.2.2.2.2 (zeI x.2.2.2.2.2.2.2.2.2.2 v) s0 v) r) :: Q) = skA (P ++ mkK x (_, _, _, _, _, zeA nx xx gt lt x.2.2.2.2.2.2.2.2.2.2 (s :: v :: r)) :: Q)
          rw [g3]; rfl
        · obtain ⟨g3, g4⟩ := g2 c
          rw [if_neg c, if_neg c, g4]
          obtain ⟨i1, i2⟩ := ih r x (by omega) hk hy
          refine ⟨i1.trans ?_, i2⟩
          show skA (P ++ mkK x (_, _, _, _, _, zeA nx xx gt lt x.2.2.2.2.2.2.2.2.2.2 r) :: Q) = skA (P ++ mkK x (_, _, _, _, _, zeA nx xx gt lt x.2.2.2.2.2.2.2.2.2.2 (s :: v :: r)) :: Q)
          rw [g3]
theorem nm_ne {v : List Int32} {es : List AE} (hv : B8 v) (he : ∀ z ∈ es, B8 z.1) (hf : ¬ nmF v es = true) : ∀ z ∈ es, ¬ cmpW z.1 v = 0 := fun z hz q => hf (by
  unfold nmF; rw [List.any_eq_true]
  exact ⟨z, hz, decide_eq_true (cmpW_eq _ _ (he z hz) hv q)⟩)
theorem cut_ne {v : List Int32} {es : List AE} (hv : B8 v) (he : ∀ z ∈ es, B8 z.1) (hZ : ZP es) {j : Nat} {z : AE} (h1 : es[j]? = some z) (h2 : z.1 = v) : ∀ t ∈ cutL es j 1, ¬ cmpW t.1 v = 0 := by
  intro t ht q
  have ht2 : t ∈ es.take j ++ es.drop (j + 1) := ht
  have hte : t ∈ es := by
    rcases List.mem_append.mp ht2 with k | k
    · exact List.mem_of_mem_take k
    · exact List.mem_of_mem_drop k
  have e : t.1 = v := cmpW_eq _ _ (he t hte) hv q
  obtain ⟨i, hi, hne⟩ : ∃ i, es[i]? = some t ∧ ¬ i = j := by
    rcases List.mem_append.mp ht2 with k | k
    · obtain ⟨i, hi, g⟩ := List.mem_iff_getElem.mp k
      have hi2 := hi
      rw [List.length_take] at hi2
      refine ⟨i, ?_, by omega⟩
      rw [List.getElem_take] at g
      rw [List.getElem?_eq_getElem (by omega), g]
    · obtain ⟨i, hi, g⟩ := List.mem_iff_getElem.mp k
      have hi2 := hi
      rw [List.length_drop] at hi2
      refine ⟨j + 1 + i, ?_, by omega⟩
      rw [List.getElem_drop] at g
      rw [List.getElem?_eq_getElem (by omega), g]
  exact hne (ZP_inj hZ hi h1 (e.trans h2.symm))
theorem m1_m1 (n : Nat) : Int32.ofInt (-1) - (-1 - nI n) = nI n := by
  have : ∀ a b : Int32, a - (a - b) = b := fun a b => by
    rw [Int32.sub_eq_add_neg, Int32.neg_sub, Int32.sub_eq_add_neg, ← Int32.add_assoc, Int32.add_comm a b, Int32.add_assoc, ← Int32.sub_eq_add_neg a a, Int32.sub_self, Int32.add_zero]
  exact this _ _
section KZADD
variable {Y : Nat → MethodName × ByteArray} {d : Nat} {σ0 σ u : kS} {B ws nm nm' : List (List Int32)} {ks : List KC}
/-- the score at a member's place -/
theorem kx_osc (ty : kTY σ) {P Q : List KC} {x : KC} (w : KWd σ0 B σ ws nm (P ++ x :: Q)) (hsort : x.2.2.2.2.2.2.1 = 4) {v : List Int32} {k : Nat} (hk : nm[k]? = some v) (hyes : nmF v x.2.2.2.2.2.2.2.2.2.2 = true) {j : Nat} {z : AE} (hZ : ZP x.2.2.2.2.2.2.2.2.2.2) (hj : x.2.2.2.2.2.2.2.2.2.2[j]? = some z) (hz : z.1 = v) (x2 : Int32) (e2 : x2 = nI (nmC v x.2.2.2.2.2.2.2.2.2.2)) :
    kjY kPP (kQQ Y) d 117 0 (mjL0 3 [.ref x.1, .int x2]) [] σ (fun r u => u = σ ∧ r = some (.long z.2.2)) := by
  obtain ⟨fr, vs, e0, q0, q1, q2, q3, fs, hR, hV, a1, ⟨b3, b4⟩, ⟨c1, c3, c0, c2, hp, hsp⟩, hd, s6, hn6, s4⟩ := w.o4 hsort
  have hw := w.2.2.1.1
  have he : ∀ z ∈ fs, B8 z.1 := fun z hz => by
    obtain ⟨i, hi, g⟩ := List.mem_iff_getElem.mp hz
    obtain ⟨k9, -, g2⟩ := c0.2 i z.1 (by rw [List.getElem?_map, List.getElem?_eq_getElem hi, g]; rfl)
    exact hw.b8 ty g2
  have ec : nmC v x.2.2.2.2.2.2.2.2.2.2 = skI v fs := by rw [skI_cnt hsp]; exact (hp.countP_eq _).symm
  have hyt : skT v fs = true := by
    rw [skT_any hsp (hw.b8 ty hk) he]
    have : nmF v fs = nmF v x.2.2.2.2.2.2.2.2.2.2 := by unfold nmF; exact hp.any_eq
    rw [this]; exact hyes
  rw [ec] at e2
  have hfl := hp.length_eq
  obtain ⟨z9, hz1, hz2, hz3⟩ := skT_at hyt
  have hzv : z9.1 = v := cmpW_eq _ _ (he z9 (List.mem_of_getElem? hz1)) (hw.b8 ty hk) hz2
  obtain ⟨j9, hj9, gj⟩ := List.mem_iff_getElem.mp (hp.mem_iff.mp (List.mem_of_getElem? hz1))
  have hjz : x.2.2.2.2.2.2.2.2.2.2[j9]? = some z9 := by rw [List.getElem?_eq_getElem hj9, gj]
  have ejj : j9 = j := ZP_inj hZ hjz hj (hzv.trans hz.symm)
  rw [ejj, hj] at hjz
  have ezz : z = z9 := Option.some.inj hjz
  generalize skI v fs = i at e2 hz1 hz3
  have hif := (List.getElem?_eq_some_iff.mp hz1).1
  have g3 : q2[i]? = some z9.2.2 := by rw [c2, List.getElem?_map, hz1]; rfl
  refine kjY_mono ty (fun r u _ _ h => ?_) (k_vsc ty hR a1 x2)
  obtain ⟨h1, ys, h2, qs⟩ := h
  refine ⟨h1, ?_⟩
  rw [h2, qs i q2 _ e2 (show i < x.2.2.2.2.2.2.2.2.2.2.length by omega) (show ¬ (4 : Nat) = 0 by decide) rfl g3, ezz]
theorem k_zad0_l (K : kK) (hB : BOK B ws) {P Q : List KC} {C : Nat} (hC : 3 * C ≤ 49000) (a b c d1 e : Bool) (x1 : Int32) (v0 : Nat) (y0 : KC) (N : Nat)
    (hK : ∀ u nm' ca cb x4 x5 x6 l7 l8, ca + cb = N → x4 = nI ca → x5 = nI cb → kTY u → PRE nm nm' → KWd σ0 B u ws nm' (P ++ y0 :: Q) → SCl scB σ u → kjY kPP (kQQ Y) (d + 6) 239 94 [some (.ref 75), some (.int x1), some (.null), some (.ref v0), some (.int x4), some (.int x5), some (.int x6), l7, l8] [] u K) :
    ∀ (f j ca cb : Nat) (x4 x5 x6 : Int32) (l7 l8 : Option Value) (nm' : List (List Int32)) (x : KC) (u : kS), j + 2 * f = ws.length → x6 = nI j → x4 = nI ca → x5 = nI cb → ca + cb + zeC (bI a) (bI b) (bI c) (bI d1) x.2.2.2.2.2.2.2.2.2.2 (ws.drop j) = N → zOK (ws.drop j) → kTY u → PRE nm nm' → KWd σ0 B u ws nm' (P ++ x :: Q) → SCl scB σ u → u.1 75 3 = enF a b c d1 e false → x.2.2.2.2.2.2.1 = 4 → wkO x → ZP x.2.2.2.2.2.2.2.2.2.2 → x.1 = v0 → clA (skA (P ++ x :: Q)) + 4 * f ≤ C → mkK x (esF (fun es => zeA (bI a) (bI b) (bI c) (bI d1) es (ws.drop j)) x.2.2.2.2.2) = y0 →
    kjY kPP (kQQ Y) (d + 6) 239 9 [some (.ref 75), some (.int x1), some (.null), some (.ref v0), some (.int x4), some (.int x5), some (.int x6), l7, l8] [] u K := by
  intro f
  induction f with
  | zero =>
    intro j ca cb x4 x5 x6 l7 l8 nm' x u hj e6 e4 e5 hN hok tu hp wu su h75 hso hwk hZ hx hcl hy
    obtain ⟨g, M, -, -, ⟨h4, h1024⟩, -⟩ := wu.2.2.2.1
    obtain ⟨z1, z2, kv⟩ := wu.sz (by rw [hso]; decide)
    rw [hx] at kv
    rw [List.drop_eq_nil_of_le (by omega)] at hy hN
    have hy : mkK x x.2.2.2.2.2 = y0 := hy
    have hN : ca + cb + 0 = N := hN
    refine kjZ_y rfl rfl 7 _ _ _ _ tu ?_
    refine (And.intro (tu.k (by decide) rfl) (And.intro (tu.k (by decide) rfl) (And.intro (fun c1 => ?_) (fun c1 => ?_))))
    rotate_left
    · refine absurd (show u.1 53 4 ≤ x6 + Int32.ofInt 1 from ?_) c1
      rw [h4, e6, show nI j + Int32.ofInt 1 = nI (j + 1) from nI_1 j, nle (by omega) (by omega)]; omega
    refine hK u nm' ca cb x4 x5 x6 l7 l8 hN e4 e5 tu hp ?_ su
    rw [← hy, mkK_self hwk]; exact wu
  | succ f ih =>
    intro j ca cb x4 x5 x6 l7 l8 nm' x u hj e6 e4 e5 hN hok tu hp wu su h75 hso hwk hZ hx hcl hy
    obtain ⟨g, M, -, -, ⟨h4, h1024⟩, -⟩ := wu.2.2.2.1
    obtain ⟨z1, z2, kv⟩ := wu.sz (by rw [hso]; decide)
    have hjl : j + 1 < ws.length := by omega
    have hd : ws.drop j = ws[j] :: ws[j + 1] :: ws.drop (j + 2) := by
      rw [List.drop_eq_getElem_cons (by omega), List.drop_eq_getElem_cons hjl]
    subst hx
    refine kjZ_y rfl rfl 7 _ _ _ _ tu ?_
    refine (And.intro (tu.k (by decide) rfl) (And.intro (tu.k (by decide) rfl) (And.intro (fun c1 => ?_) (fun c1 => ?_))))
    · refine absurd (show u.1 53 4 ≤ x6 + Int32.ofInt 1 from c1) ?_
      rw [h4, e6, show nI j + Int32.ofInt 1 = nI (j + 1) from nI_1 j, nle (by omega) (by omega)]; omega
    have hv := List.getElem?_eq_getElem (show j < ws.length by omega)
    have hv2 := List.getElem?_eq_getElem hjl
    generalize ws[j] = v at hv hd
    generalize ws[j + 1] = v2 at hv2 hd
    rw [hd] at hok hy hN
    obtain ⟨⟨s0, hs0⟩, hok⟩ := hok
    refine kjZ_y rfl rfl 4 _ _ _ _ tu ?_
    refine (And.intro (tu.k (by decide) rfl) (And.intro (Nat.le_of_ble_eq_true rfl) (And.intro (Or.inl ⟨(Nat.le_of_ble_eq_true rfl), (tu.k (by decide) rfl)⟩) (And.intro (Nat.le_of_ble_eq_true rfl) (And.intro (Nat.le_of_ble_eq_true rfl) (kjY_mono tu (fun q_ u0 ty0 xu0 h_ => ?_) (kx_lacksInteger tu wu hv _ e6)))))))
    obtain ⟨w0, s9, q⟩ := h_
    intro _ _
    have kv0 : (u0.2.2.2.1 x.1).1 = 11 := xu0.k tu kv (by decide)
    rcases q with ⟨n, q1, rfl, e9⟩ | ⟨q1, rfl⟩
    rotate_left
    · rw [hs0] at q1; cases q1
    rw [hs0] at q1
    obtain rfl := Option.some.inj q1
    refine kjZ_y rfl rfl 1 _ _ _ _ ty0 ?_
    refine And.intro (fun c2 => ?_) (fun c2 => ?_)
    rotate_left
    · exact absurd rfl c2
    refine kjZ_y rfl rfl 6 _ _ _ _ ty0 ?_
    refine (And.intro (ty0.k (by decide) rfl) (And.intro (Nat.le_of_ble_eq_true rfl) (And.intro (Or.inl ⟨(Nat.le_of_ble_eq_true rfl), (ty0.k (by decide) rfl)⟩) (And.intro (Nat.le_of_ble_eq_true rfl) (And.intro (Nat.le_of_ble_eq_true rfl) (kjY_mono ty0 (fun q_ u1 ty1 xu1 h_ => ?_) (kx_id ty0 w0 hB hv2 _ (by rw [e6]; exact nI_1 j))))))))
    obtain ⟨k, nm2, rfl, p2, p3, w1, s1⟩ := h_
    intro _ _
    have kv1 : (u1.2.2.2.1 x.1).1 = 11 := xu1.k ty0 kv0 (by decide)
    refine kjZ_y rfl rfl 6 _ _ _ _ ty1 ?_
    refine (And.intro (Nat.le_of_ble_eq_true rfl) (And.intro (ty1.k (by decide) rfl) (And.intro (Nat.le_of_ble_eq_true rfl) (And.intro (Or.inl ⟨(Nat.le_of_ble_eq_true rfl), (ty1.k (by decide) rfl)⟩) (And.intro (Nat.le_of_ble_eq_true rfl) (And.intro (Nat.le_of_ble_eq_true rfl) (kjY_mono ty1 (fun q_ u2 ty2 xu2 h_ => ?_) (kx_plO ty1 w1 hso p2 _ rfl))))))))
    obtain ⟨rfl, rfl⟩ := h_
    intro _ _
    have hb8 := KWd.b8o ty2 w1 hso
    have hv8 := w1.2.2.1.1.b8 ty2 p2
    have e9 : u2.2.1 53 9 = s0 := (s1 (53, 9) (by decide)).2.1.trans e9
    have hH1 : SCl scB σ u2 := (su.tr s9).tr (s1.sub scBA)
    have f75 : u2.1 75 3 = enF a b c d1 e false := ((s1 (75, 3) (by decide)).1.trans (s9 (75, 3) (by decide)).1).trans h75
    have hpA := hp.tr p3
    obtain ⟨g1, g2⟩ := zeA_1 (nx := bI a) (xx := bI b) (gt := bI c) (lt := bI d1) (es := x.2.2.2.2.2.2.2.2.2.2) (v := v2) (r := ws.drop (j + 2)) hs0
    have hpt : ptI x.2.2.2.2.2.2.1 = 4 := by rw [hso]; rfl
    have hlx : 4 * x.2.2.2.2.2.2.2.2.2.2.length ≤ clA (skA (P ++ x :: Q)) := by rw [clA_at, hpt]; omega
    -- nothing was done
    have skip : ∀ x8 : Int32, (¬ zGo (bI a) (bI b) (bI c) (bI d1) (zeI x.2.2.2.2.2.2.2.2.2.2 v2) s0 = true) → kjY kPP (kQQ Y) (d + 6) 239 92 [some (.ref 75), some (.int x1), some (.null), some (.ref x.1), some (.int x4), some (.int x5), some (.int x6), some (.int (nI k)), some (.int x8)] [] u2 K := by
      intro x8 hg
      obtain ⟨g3, g4⟩ := g2 hg
      have kv2 : (u2.2.2.2.1 x.1).1 = 11 := kv1
      refine kjZ_y rfl rfl 2 _ _ _ _ ty2 ?_
      refine ih (j + 2) ca cb _ _ _ _ _ nm2 x u2 (by omega) (by rw [e6]; exact nI_add j 2) e4 e5 ?_ hok ty2 hpA w1 hH1 f75 hso hwk hZ rfl (by omega) ?_
      · rw [g4] at hN; exact hN
      · rw [← hy]
        show mkK x (_, _, _, _, _, zeA _ _ _ _ _ _) = mkK x (_, _, _, _, _, zeA _ _ _ _ _ (_ :: _ :: _))
        rw [g3]
    -- it was done
    have next : ∀ (z : kS) (ca' cb' : Nat) (x4' x5' x8 : Int32), ca' + cb' = ca + cb + 1 → x4' = nI ca' → x5' = nI cb' → (zGo (bI a) (bI b) (bI c) (bI d1) (zeI x.2.2.2.2.2.2.2.2.2.2 v2) s0 = true) → kTY z → KWd σ0 B z ws nm2 (P ++ mkK x (esF (fun es => zeN es (zeI es v2) s0 v2) x.2.2.2.2.2) :: Q) → SCl scA u2 z → ZP (zeN x.2.2.2.2.2.2.2.2.2.2 (zeI x.2.2.2.2.2.2.2.2.2.2 v2) s0 v2) → (zeN x.2.2.2.2.2.2.2.2.2.2 (zeI x.2.2.2.2.2.2.2.2.2.2 v2) s0 v2).length ≤ x.2.2.2.2.2.2.2.2.2.2.length + 1 → kjY kPP (kQQ Y) (d + 6) 239 92 [some (.ref 75), some (.int x1), some (.null), some (.ref x.1), some (.int x4'), some (.int x5'), some (.int x6), some (.int (nI k)), some (.int x8)] [] z K := by
      intro z ca' cb' x4' x5' x8 hc ea eb hg tz wz sz hz9 hl9
      obtain ⟨g3, g4⟩ := g1 hg
      have kvz : (z.2.2.2.1 x.1).1 = 11 := (wz.sz (x := mkK x (esF (fun es => zeN es (zeI es v2) s0 v2) x.2.2.2.2.2)) (by show ¬ x.2.2.2.2.2.2.1 = 0; rw [hso]; decide)).2.2
      refine kjZ_y rfl rfl 2 _ _ _ _ tz ?_
      refine ih (j + 2) ca' cb' _ _ _ _ _ nm2 (mkK x (esF (fun es => zeN es (zeI es v2) s0 v2) x.2.2.2.2.2)) z (by omega) (by rw [e6]; exact nI_add j 2) ea eb ?_ hok tz hpA wz (hH1.tr (sz.sub scBA)) ((sz (75, 3) (by decide)).1.trans f75) hso (wkO_mk _ _) hz9 rfl ?_ ?_
      · rw [g4] at hN
        show ca' + cb' + zeC _ _ _ _ (zeN x.2.2.2.2.2.2.2.2.2.2 (zeI x.2.2.2.2.2.2.2.2.2.2 v2) s0 v2) _ = N
        omega
      · rw [clA_at, hpt] at hcl
        rw [clA_at]
        show clA (skA P) + ptI x.2.2.2.2.2.2.1 * (zeN x.2.2.2.2.2.2.2.2.2.2 (zeI x.2.2.2.2.2.2.2.2.2.2 v2) s0 v2).length + _ + 4 * f ≤ C
        rw [hpt]; omega
      · rw [← hy]
        show mkK _ (_, _, _, _, _, zeA _ _ _ _ (zeN x.2.2.2.2.2.2.2.2.2.2 _ _ _) _) = mkK x (_, _, _, _, _, zeA _ _ _ _ _ (_ :: _ :: _))
        rw [g3]; rfl
    by_cases hf : nmF v2 x.2.2.2.2.2.2.2.2.2.2 = true
    rotate_left
    · have hE := fdE_n hv8 hb8 hf
      have hzI : zeI x.2.2.2.2.2.2.2.2.2.2 v2 = none := by unfold zeI; rw [hE]
      rw [if_neg hf]
      have hlt := nm_neg (v := v2) (es := x.2.2.2.2.2.2.2.2.2.2) (by omega)
      obtain ⟨x8, e8⟩ : ∃ x8, x8 = -1 - nI (nmC v2 x.2.2.2.2.2.2.2.2.2.2) := ⟨_, rfl⟩
      rw [← e8] at hlt
      rw [← e8]
      refine kjZ_y rfl rfl 1 _ _ _ _ ty2 ?_
      refine (And.intro (Nat.le_of_ble_eq_true rfl) ?_)
      refine kjZ_y rfl rfl 2 _ _ _ _ ty2 ?_
      refine And.intro (fun c3 => ?_) (fun c3 => ?_)
      · exact absurd (show (0 : Int32) ≤ x8 from c3) (Int32.not_le.mpr hlt)
      refine kjZ_y rfl rfl 3 _ _ _ _ ty2 ?_
      refine (And.intro (Nat.le_of_ble_eq_true rfl) (And.intro (Or.inl ⟨(Nat.le_of_ble_eq_true rfl), (ty2.k (by decide) rfl)⟩) (And.intro (Nat.le_of_ble_eq_true rfl) (And.intro (Nat.le_of_ble_eq_true rfl) (kjY_mono ty2 (fun q_ u3 ty3 xu3 h_ => ?_) (kx_told ty2 _))))))
      obtain ⟨rfl, q⟩ := h_
      intro _ _
      rcases q with ⟨rfl, q⟩ | ⟨rfl, q⟩
      · have q : ¬ u3.1 75 3 &&& 2 = 0 := q
        rw [f75, enF_2] at q
        refine kjZ_y rfl rfl 1 _ _ _ _ ty3 ?_
        refine And.intro (fun c4 => ?_) (fun c4 => ?_)
        rotate_left
        · exact absurd (show ¬ (1 : Int32) = 0 by decide) c4
        refine kjZ_y rfl rfl 2 _ _ _ _ ty3 ?_
        refine And.intro (fun c5 => ?_) (fun c5 => ?_)
        rotate_left
        · exact absurd hlt c5
        refine skip x8 (fun z => ?_)
        rw [hzI] at z
        exact q (bI_0.mp (of_decide_eq_true (show decide (bI b = 0) = true from z)))
      · have q : u3.1 75 3 &&& 2 = 0 := q
        rw [f75, enF_2] at q
        refine kjZ_y rfl rfl 1 _ _ _ _ ty3 ?_
        refine And.intro (fun c4 => ?_) (fun c4 => ?_)
        · exact absurd rfl c4
        have ep : Int32.ofInt (-1) - x8 = nI (nmC v2 x.2.2.2.2.2.2.2.2.2.2) := by rw [e8]; exact m1_m1 _
        refine kjZ_y rfl rfl 12 _ _ _ _ ty3 ?_
        refine (And.intro (ty3.k (by decide) rfl) (And.intro (ty3.k (by decide) rfl) (And.intro (Nat.le_of_ble_eq_true rfl) (And.intro (Or.inl ⟨(Nat.le_of_ble_eq_true rfl), (ty3.k (by decide) rfl)⟩) (And.intro (Nat.le_of_ble_eq_true rfl) (And.intro (Nat.le_of_ble_eq_true rfl) (kjY_mono ty3 (fun q_ u4 ty4 xu4 h_ => ?_) (kx_oins ty3 w1 hso hwk hZ p2 hf (by omega) (u3.2.1 53 9) _ _ ep rfl))))))))
        obtain ⟨rfl, jj, hj1, w4, s4⟩ := h_
        intro _ _
        have kv4 : (u4.2.2.2.1 x.1).1 = 11 := xu4.k ty3 kv1 (by decide)
        have hrk : zeN x.2.2.2.2.2.2.2.2.2.2 (zeI x.2.2.2.2.2.2.2.2.2.2 v2) s0 v2 = insL x.2.2.2.2.2.2.2.2.2.2 jj (v2, [], s0) := by
          rw [hzI]; rw [e9] at hj1; exact rkE_lp hj1 (nm_ne hv8 hb8 hf)
        refine kjZ_y rfl rfl 2 _ _ _ _ ty4 ?_
        refine next u4 (ca + 1) cb _ _ _ (by omega) (by rw [e4]; exact nI_1 ca) e5 ?_ ty4 ?_ s4 ?_ ?_
        · rw [hzI]; exact decide_eq_true (show bI b = 0 by rw [q]; rfl)
        · have ew : mkK x (esF (fun es => zeN es (zeI es v2) s0 v2) x.2.2.2.2.2) = mkK x (esF (fun es => insL es jj (v2, [], u3.2.1 53 9)) x.2.2.2.2.2) := by
            show mkK x (_, _, _, _, _, zeN x.2.2.2.2.2.2.2.2.2.2 _ _ _) = mkK x (_, _, _, _, _, insL _ _ _)
            rw [hrk, e9]
          rw [ew]; exact w4
        · rw [hzI]; exact rk_ZP hZ (nm_ne hv8 hb8 hf)
        · rw [hrk, insL_len]; exact Nat.le_refl _
    · rw [if_pos hf]
      have hcl9 := nmC_le v2 x.2.2.2.2.2.2.2.2.2.2
      obtain ⟨x8, e8⟩ : ∃ x8, x8 = nI (nmC v2 x.2.2.2.2.2.2.2.2.2.2) := ⟨_, rfl⟩
      rw [← e8]
      have hge : ¬ x8 < 0 := by rw [e8]; exact nI_n0 (by omega)
      obtain ⟨zz, hzm, hzv⟩ : ∃ zz ∈ x.2.2.2.2.2.2.2.2.2.2, zz.1 = v2 := by
        unfold nmF at hf
        rw [List.any_eq_true] at hf
        obtain ⟨zz, hz1, hz2⟩ := hf
        exact ⟨zz, hz1, of_decide_eq_true hz2⟩
      obtain ⟨jj, hjj, gjj⟩ := List.mem_iff_getElem.mp hzm
      have hjz : x.2.2.2.2.2.2.2.2.2.2[jj]? = some zz := by rw [List.getElem?_eq_getElem hjj, gjj]
      have hE := fdE_y hZ hjz hzv
      have hzI : zeI x.2.2.2.2.2.2.2.2.2.2 v2 = some (jj, zz.2.2) := by unfold zeI; rw [hE]; show (match x.2.2.2.2.2.2.2.2.2.2[jj]? with | some z => some (jj, z.2.2) | none => none) = _; rw [hjz]
      have hgo : zGo (bI a) (bI b) (bI c) (bI d1) (zeI x.2.2.2.2.2.2.2.2.2.2 v2) s0 = true ↔ ((bI a = 0 ∧ (bI c = 0 ∨ zz.2.2 < s0) ∧ (bI d1 = 0 ∨ s0 < zz.2.2)) ∧ ¬ zz.2.2 = s0) := by
        rw [hzI]
        show ((decide (bI a = 0 ∧ (bI c = 0 ∨ zz.2.2 < s0) ∧ (bI d1 = 0 ∨ s0 < zz.2.2))) && decide (¬ zz.2.2 = s0)) = true ↔ _
        rw [Bool.and_eq_true, decide_eq_true_iff, decide_eq_true_iff]
      refine kjZ_y rfl rfl 1 _ _ _ _ ty2 ?_
      refine (And.intro (Nat.le_of_ble_eq_true rfl) ?_)
      refine kjZ_y rfl rfl 2 _ _ _ _ ty2 ?_
      refine And.intro (fun c3 => ?_) (fun c3 => ?_)
      rotate_left
      · exact absurd (show (0 : Int32) ≤ x8 from Int32.not_lt.mp hge) c3
      refine kjZ_y rfl rfl 2 _ _ _ _ ty2 ?_
      refine And.intro (fun c5 => ?_) (fun c5 => ?_)
      · exact absurd c5 hge
      refine kjZ_y rfl rfl 3 _ _ _ _ ty2 ?_
      refine (And.intro (Nat.le_of_ble_eq_true rfl) (And.intro (Or.inl ⟨(Nat.le_of_ble_eq_true rfl), (ty2.k (by decide) rfl)⟩) (And.intro (Nat.le_of_ble_eq_true rfl) (And.intro (Nat.le_of_ble_eq_true rfl) (kjY_mono ty2 (fun q_ u3 ty3 xu3 h_ => ?_) (kx_told ty2 _))))))
      obtain ⟨rfl, q⟩ := h_
      intro _ _
      rcases q with ⟨rfl, q⟩ | ⟨rfl, q⟩
      · have q : ¬ u3.1 75 3 &&& 1 = 0 := q
        rw [f75, enF_1] at q
        refine kjZ_y rfl rfl 1 _ _ _ _ ty3 ?_
        refine And.intro (fun c4 => ?_) (fun c4 => ?_)
        rotate_left
        · exact absurd (show ¬ (1 : Int32) = 0 by decide) c4
        exact skip x8 (fun z => q (bI_0.mp (hgo.mp z).1.1))
      · have q : u3.1 75 3 &&& 1 = 0 := q
        rw [f75, enF_1] at q
        have qa : bI a = 0 := by rw [q]; rfl
        refine kjZ_y rfl rfl 1 _ _ _ _ ty3 ?_
        refine And.intro (fun c4 => ?_) (fun c4 => ?_)
        · exact absurd rfl c4
        refine kjZ_y rfl rfl 3 _ _ _ _ ty3 ?_
        refine (And.intro (Nat.le_of_ble_eq_true rfl) (And.intro (Or.inl ⟨(Nat.le_of_ble_eq_true rfl), (by assumption)⟩) (And.intro (Nat.le_of_ble_eq_true rfl) (And.intro (Nat.le_of_ble_eq_true rfl) (kjY_mono ty3 (fun q_ u4 ty4 xu4 h_ => ?_) (kx_osc ty3 w1 hso p2 hf hZ hjz hzv _ e8))))))
        obtain ⟨rfl, rfl⟩ := h_
        intro _ _
        refine kjZ_y rfl rfl 5 _ _ _ _ ty4 ?_
        refine (And.intro (ty4.k (by decide) rfl) (And.intro (ty4.k (by decide) rfl) (And.intro (fun c6 => ?_) (fun c6 => ?_))))
        · have c6 : zz.2.2 = u4.2.1 53 9 := (lg_cmp_eq _ _).mp c6
          rw [e9] at c6
          exact skip x8 (fun z => (hgo.mp z).2 c6)
        have c6b : ¬ zz.2.2 = s0 := fun z => c6 ((lg_cmp_eq _ _).mpr (by rw [z]; exact e9.symm))
        refine kjZ_y rfl rfl 4 _ _ _ _ ty4 ?_
        refine (And.intro (Nat.le_of_ble_eq_true rfl) (And.intro (Or.inl ⟨(Nat.le_of_ble_eq_true rfl), (by assumption)⟩) (And.intro (Nat.le_of_ble_eq_true rfl) (And.intro (Nat.le_of_ble_eq_true rfl) (kjY_mono ty4 (fun q_ u5 ty5 xu5 h_ => ?_) (kx_osc ty4 w1 hso p2 hf hZ hjz hzv _ e8))))))
        obtain ⟨rfl, rfl⟩ := h_
        intro _ _
        refine kjZ_y rfl rfl 4 _ _ _ _ ty5 ?_
        refine (And.intro (ty5.k (by decide) rfl) (And.intro (ty5.k (by decide) rfl) (And.intro (Nat.le_of_ble_eq_true rfl) (And.intro (Or.inl ⟨(Nat.le_of_ble_eq_true rfl), (ty5.k (by decide) rfl)⟩) (And.intro (Nat.le_of_ble_eq_true rfl) (And.intro (Nat.le_of_ble_eq_true rfl) (kjY_mono ty5 (fun q_ u6 ty6 xu6 h_ => ?_) (kx_mayBe ty5 _ _))))))))
        obtain ⟨rfl, q6⟩ := h_
        intro _ _
        have hmb : ((bI c = 0 ∨ zz.2.2 < s0) ∧ (bI d1 = 0 ∨ s0 < zz.2.2)) ↔ (((¬ u6.1 75 3 &&& 4 = 0) → zz.2.2 < u6.2.1 53 9) ∧ ((¬ u6.1 75 3 &&& 8 = 0) → u6.2.1 53 9 < zz.2.2)) := by
          rw [f75, enF_4, enF_8, e9, bI_0, bI_0]
          refine ⟨fun z => ⟨fun y => z.1.elim (fun k9 => absurd k9 y) id, fun y => z.2.elim (fun k9 => absurd k9 y) id⟩, fun z => ⟨?_, ?_⟩⟩
          · by_cases k9 : c = false
            · exact Or.inl k9
            · exact Or.inr (z.1 k9)
          · by_cases k9 : d1 = false
            · exact Or.inl k9
            · exact Or.inr (z.2 k9)
        rcases q6 with ⟨rfl, q6⟩ | ⟨rfl, q6⟩
        rotate_left
        · refine kjZ_y rfl rfl 1 _ _ _ _ ty6 ?_
          refine And.intro (fun c7 => ?_) (fun c7 => ?_)
          rotate_left
          · exact absurd rfl c7
          exact skip x8 (fun z => q6 (hmb.mp (hgo.mp z).1.2))
        refine kjZ_y rfl rfl 1 _ _ _ _ ty6 ?_
        refine And.intro (fun c7 => ?_) (fun c7 => ?_)
        · exact absurd (show (1 : Int32) = 0 from c7) (by decide)
        refine kjZ_y rfl rfl 7 _ _ _ _ ty6 ?_
        refine (And.intro (ty6.k (by decide) rfl) (And.intro (ty6.k (by decide) rfl) (And.intro (Nat.le_of_ble_eq_true rfl) (And.intro (Or.inl ⟨(Nat.le_of_ble_eq_true rfl), (ty6.k (by decide) rfl)⟩) (And.intro (Nat.le_of_ble_eq_true rfl) (And.intro (Nat.le_of_ble_eq_true rfl) (kjY_mono ty6 (fun q_ u7 ty7 xu7 h_ => ?_) (kx_oresc ty6 w1 hso hwk hZ p2 hf _ e8 (u6.2.1 53 9)))))))))
        obtain ⟨rfl, jn, zn, j2, hn1, hn2, hj1, w7, s7⟩ := h_
        intro _ _
        have kv7 : (u7.2.2.2.1 x.1).1 = 11 := xu7.k ty6 kv1 (by decide)
        have ejn : jn = jj := ZP_inj hZ hn1 hjz (hn2.trans hzv.symm)
        rw [ejn, e9] at hj1
        have hrk : zeN x.2.2.2.2.2.2.2.2.2.2 (zeI x.2.2.2.2.2.2.2.2.2.2 v2) s0 v2 = insL (cutL x.2.2.2.2.2.2.2.2.2.2 jj 1) j2 (v2, [], s0) := by
          rw [hzI]
          show rkE s0 v2 (rmE jj _) = _
          rw [rmE_cut]; exact rkE_lp hj1 (cut_ne hv8 hb8 hZ hjz hzv)
        refine kjZ_y rfl rfl 1 _ _ _ _ ty7 ?_
        refine next u7 ca (cb + 1) _ _ _ (by omega) e4 (by rw [e5]; exact nI_1 cb) (hgo.mpr ⟨⟨qa, hmb.mpr q6⟩, c6b⟩) ty7 ?_ s7 ?_ ?_
        · have ew : mkK x (esF (fun es => zeN es (zeI es v2) s0 v2) x.2.2.2.2.2) = mkK x (esF (fun es => insL (cutL es jn 1) j2 (v2, [], u6.2.1 53 9)) x.2.2.2.2.2) := by
            show mkK x (_, _, _, _, _, zeN x.2.2.2.2.2.2.2.2.2.2 _ _ _) = mkK x (_, _, _, _, _, insL (cutL _ _ _) _ _)
            rw [hrk, e9, ejn]
          rw [ew]; exact w7
        · rw [hzI]
          show ZP (rkE s0 v2 (rmE jj _))
          rw [rmE_cut]; exact rk_ZP (ZP_cut hZ _ _) (cut_ne hv8 hb8 hZ hjz hzv)
        · rw [hrk, insL_len]
          rw [cutL_len (by omega)]; omega
theorem k_zad1_l (K : kK) (hB : BOK B ws) {P Q : List KC} {C : Nat} (hC : 3 * C ≤ 49000) (a b c d1 e : Bool) (x1 : Int32) (v0 : Nat) (y0 : KC) (N : Nat)
    (hK : ∀ u nm' ca cb x4 x5 x6 l7 l8, ca + cb = N → x4 = nI ca → x5 = nI cb → kTY u → PRE nm nm' → KWd σ0 B u ws nm' (P ++ y0 :: Q) → SCl scB σ u → kjY kPP (kQQ Y) (d + 6) 239 94 [some (.ref 75), some (.int x1), some (.ref v0), some (.ref v0), some (.int x4), some (.int x5), some (.int x6), l7, l8] [] u K) :
    ∀ (f j ca cb : Nat) (x4 x5 x6 : Int32) (l7 l8 : Option Value) (nm' : List (List Int32)) (x : KC) (u : kS), j + 2 * f = ws.length → x6 = nI j → x4 = nI ca → x5 = nI cb → ca + cb + zeC (bI a) (bI b) (bI c) (bI d1) x.2.2.2.2.2.2.2.2.2.2 (ws.drop j) = N → zOK (ws.drop j) → kTY u → PRE nm nm' → KWd σ0 B u ws nm' (P ++ x :: Q) → SCl scB σ u → u.1 75 3 = enF a b c d1 e false → x.2.2.2.2.2.2.1 = 4 → wkO x → ZP x.2.2.2.2.2.2.2.2.2.2 → x.1 = v0 → clA (skA (P ++ x :: Q)) + 4 * f ≤ C → mkK x (esF (fun es => zeA (bI a) (bI b) (bI c) (bI d1) es (ws.drop j)) x.2.2.2.2.2) = y0 →
    kjY kPP (kQQ Y) (d + 6) 239 9 [some (.ref 75), some (.int x1), some (.ref v0), some (.ref v0), some (.int x4), some (.int x5), some (.int x6), l7, l8] [] u K := by
  intro f
  induction f with
  | zero =>
    intro j ca cb x4 x5 x6 l7 l8 nm' x u hj e6 e4 e5 hN hok tu hp wu su h75 hso hwk hZ hx hcl hy
    obtain ⟨g, M, -, -, ⟨h4, h1024⟩, -⟩ := wu.2.2.2.1
    obtain ⟨z1, z2, kv⟩ := wu.sz (by rw [hso]; decide)
    rw [hx] at kv
    rw [List.drop_eq_nil_of_le (by omega)] at hy hN
    have hy : mkK x x.2.2.2.2.2 = y0 := hy
    have hN : ca + cb + 0 = N := hN
    refine kjZ_y rfl rfl 7 _ _ _ _ tu ?_
    refine (And.intro (tu.k (by decide) rfl) (And.intro (tu.k (by decide) rfl) (And.intro (fun c1 => ?_) (fun c1 => ?_))))
    rotate_left
    · refine absurd (show u.1 53 4 ≤ x6 + Int32.ofInt 1 from ?_) c1
      rw [h4, e6, show nI j + Int32.ofInt 1 = nI (j + 1) from nI_1 j, nle (by omega) (by omega)]; omega
    refine hK u nm' ca cb x4 x5 x6 l7 l8 hN e4 e5 tu hp ?_ su
    rw [← hy, mkK_self hwk]; exact wu
  | succ f ih =>
    intro j ca cb x4 x5 x6 l7 l8 nm' x u hj e6 e4 e5 hN hok tu hp wu su h75 hso hwk hZ hx hcl hy
    obtain ⟨g, M, -, -, ⟨h4, h1024⟩, -⟩ := wu.2.2.2.1
    obtain ⟨z1, z2, kv⟩ := wu.sz (by rw [hso]; decide)
    have hjl : j + 1 < ws.length := by omega
    have hd : ws.drop j = ws[j] :: ws[j + 1] :: ws.drop (j + 2) := by
      rw [List.drop_eq_getElem_cons (by omega), List.drop_eq_getElem_cons hjl]
    subst hx
    refine kjZ_y rfl rfl 7 _ _ _ _ tu ?_
    refine (And.intro (tu.k (by decide) rfl) (And.intro (tu.k (by decide) rfl) (And.intro (fun c1 => ?_) (fun c1 => ?_))))
    · refine absurd (show u.1 53 4 ≤ x6 + Int32.ofInt 1 from c1) ?_
      rw [h4, e6, show nI j + Int32.ofInt 1 = nI (j + 1) from nI_1 j, nle (by omega) (by omega)]; omega
    have hv := List.getElem?_eq_getElem (show j < ws.length by omega)
    have hv2 := List.getElem?_eq_getElem hjl
    generalize ws[j] = v at hv hd
    generalize ws[j + 1] = v2 at hv2 hd
    rw [hd] at hok hy hN
    obtain ⟨⟨s0, hs0⟩, hok⟩ := hok
    refine kjZ_y rfl rfl 4 _ _ _ _ tu ?_
    refine (And.intro (tu.k (by decide) rfl) (And.intro (Nat.le_of_ble_eq_true rfl) (And.intro (Or.inl ⟨(Nat.le_of_ble_eq_true rfl), (tu.k (by decide) rfl)⟩) (And.intro (Nat.le_of_ble_eq_true rfl) (And.intro (Nat.le_of_ble_eq_true rfl) (kjY_mono tu (fun q_ u0 ty0 xu0 h_ => ?_) (kx_lacksInteger tu wu hv _ e6)))))))
    obtain ⟨w0, s9, q⟩ := h_
    intro _ _
    have kv0 : (u0.2.2.2.1 x.1).1 = 11 := xu0.k tu kv (by decide)
    rcases q with ⟨n, q1, rfl, e9⟩ | ⟨q1, rfl⟩
    rotate_left
    · rw [hs0] at q1; cases q1
    rw [hs0] at q1
    obtain rfl := Option.some.inj q1
    refine kjZ_y rfl rfl 1 _ _ _ _ ty0 ?_
    refine And.intro (fun c2 => ?_) (fun c2 => ?_)
    rotate_left
    · exact absurd rfl c2
    refine kjZ_y rfl rfl 6 _ _ _ _ ty0 ?_
    refine (And.intro (ty0.k (by decide) rfl) (And.intro (Nat.le_of_ble_eq_true rfl) (And.intro (Or.inl ⟨(Nat.le_of_ble_eq_true rfl), (ty0.k (by decide) rfl)⟩) (And.intro (Nat.le_of_ble_eq_true rfl) (And.intro (Nat.le_of_ble_eq_true rfl) (kjY_mono ty0 (fun q_ u1 ty1 xu1 h_ => ?_) (kx_id ty0 w0 hB hv2 _ (by rw [e6]; exact nI_1 j))))))))
    obtain ⟨k, nm2, rfl, p2, p3, w1, s1⟩ := h_
    intro _ _
    have kv1 : (u1.2.2.2.1 x.1).1 = 11 := xu1.k ty0 kv0 (by decide)
    refine kjZ_y rfl rfl 6 _ _ _ _ ty1 ?_
    refine (And.intro (Nat.le_of_ble_eq_true rfl) (And.intro (ty1.k (by decide) rfl) (And.intro (Nat.le_of_ble_eq_true rfl) (And.intro (Or.inl ⟨(Nat.le_of_ble_eq_true rfl), (ty1.k (by decide) rfl)⟩) (And.intro (Nat.le_of_ble_eq_true rfl) (And.intro (Nat.le_of_ble_eq_true rfl) (kjY_mono ty1 (fun q_ u2 ty2 xu2 h_ => ?_) (kx_plO ty1 w1 hso p2 _ rfl))))))))
    obtain ⟨rfl, rfl⟩ := h_
    intro _ _
    have hb8 := KWd.b8o ty2 w1 hso
    have hv8 := w1.2.2.1.1.b8 ty2 p2
    have e9 : u2.2.1 53 9 = s0 := (s1 (53, 9) (by decide)).2.1.trans e9
    have hH1 : SCl scB σ u2 := (su.tr s9).tr (s1.sub scBA)
    have f75 : u2.1 75 3 = enF a b c d1 e false := ((s1 (75, 3) (by decide)).1.trans (s9 (75, 3) (by decide)).1).trans h75
    have hpA := hp.tr p3
    obtain ⟨g1, g2⟩ := zeA_1 (nx := bI a) (xx := bI b) (gt := bI c) (lt := bI d1) (es := x.2.2.2.2.2.2.2.2.2.2) (v := v2) (r := ws.drop (j + 2)) hs0
    have hpt : ptI x.2.2.2.2.2.2.1 = 4 := by rw [hso]; rfl
    have hlx : 4 * x.2.2.2.2.2.2.2.2.2.2.length ≤ clA (skA (P ++ x :: Q)) := by rw [clA_at, hpt]; omega
    -- nothing was done
    have skip : ∀ x8 : Int32, (¬ zGo (bI a) (bI b) (bI c) (bI d1) (zeI x.2.2.2.2.2.2.2.2.2.2 v2) s0 = true) → kjY kPP (kQQ Y) (d + 6) 239 92 [some (.ref 75), some (.int x1), some (.ref x.1), some (.ref x.1), some (.int x4), some (.int x5), some (.int x6), some (.int (nI k)), some (.int x8)] [] u2 K := by
      intro x8 hg
      obtain ⟨g3, g4⟩ := g2 hg
      have kv2 : (u2.2.2.2.1 x.1).1 = 11 := kv1
      refine kjZ_y rfl rfl 2 _ _ _ _ ty2 ?_
      refine ih (j + 2) ca cb _ _ _ _ _ nm2 x u2 (by omega) (by rw [e6]; exact nI_add j 2) e4 e5 ?_ hok ty2 hpA w1 hH1 f75 hso hwk hZ rfl (by omega) ?_
      · rw [g4] at hN; exact hN
      · rw [← hy]
        show mkK x (_, _, _, _, _, zeA _ _ _ _ _ _) = mkK x (_, _, _, _, _, zeA _ _ _ _ _ (_ :: _ :: _))
        rw [g3]
    -- it was done
    have next : ∀ (z : kS) (ca' cb' : Nat) (x4' x5' x8 : Int32), ca' + cb' = ca + cb + 1 → x4' = nI ca' → x5' = nI cb' → (zGo (bI a) (bI b) (bI c) (bI d1) (zeI x.2.2.2.2.2.2.2.2.2.2 v2) s0 = true) → kTY z → KWd σ0 B z ws nm2 (P ++ mkK x (esF (fun es => zeN es (zeI es v2) s0 v2) x.2.2.2.2.2) :: Q) → SCl scA u2 z → ZP (zeN x.2.2.2.2.2.2.2.2.2.2 (zeI x.2.2.2.2.2.2.2.2.2.2 v2) s0 v2) → (zeN x.2.2.2.2.2.2.2.2.2.2 (zeI x.2.2.2.2.2.2.2.2.2.2 v2) s0 v2).length ≤ x.2.2.2.2.2.2.2.2.2.2.length + 1 → kjY kPP (kQQ Y) (d + 6) 239 92 [some (.ref 75), some (.int x1), some (.ref x.1), some (.ref x.1), some (.int x4'), some (.int x5'), some (.int x6), some (.int (nI k)), some (.int x8)] [] z K := by
      intro z ca' cb' x4' x5' x8 hc ea eb hg tz wz sz hz9 hl9
      obtain ⟨g3, g4⟩ := g1 hg
      have kvz : (z.2.2.2.1 x.1).1 = 11 := (wz.sz (x := mkK x (esF (fun es => zeN es (zeI es v2) s0 v2) x.2.2.2.2.2)) (by show ¬ x.2.2.2.2.2.2.1 = 0; rw [hso]; decide)).2.2
      refine kjZ_y rfl rfl 2 _ _ _ _ tz ?_
      refine ih (j + 2) ca' cb' _ _ _ _ _ nm2 (mkK x (esF (fun es => zeN es (zeI es v2) s0 v2) x.2.2.2.2.2)) z (by omega) (by rw [e6]; exact nI_add j 2) ea eb ?_ hok tz hpA wz (hH1.tr (sz.sub scBA)) ((sz (75, 3) (by decide)).1.trans f75) hso (wkO_mk _ _) hz9 rfl ?_ ?_
      · rw [g4] at hN
        show ca' + cb' + zeC _ _ _ _ (zeN x.2.2.2.2.2.2.2.2.2.2 (zeI x.2.2.2.2.2.2.2.2.2.2 v2) s0 v2) _ = N
        omega
      · rw [clA_at, hpt] at hcl
        rw [clA_at]
        show clA (skA P) + ptI x.2.2.2.2.2.2.1 * (zeN x.2.2.2.2.2.2.2.2.2.2 (zeI x.2.2.2.2.2.2.2.2.2.2 v2) s0 v2).length + _ + 4 * f ≤ C
        rw [hpt]; omega
      · rw [← hy]
        show mkK _ (_, _, _, _, _, zeA _ _ _ _ (zeN x.2.2.2.2.2.2.2.2.2.2 _ _ _) _) = mkK x (_, _, _, _, _, zeA _ _ _ _ _ (_ :: _ :: _))
        rw [g3]; rfl
    by_cases hf : nmF v2 x.2.2.2.2.2.2.2.2.2.2 = true
    rotate_left
    · have hE := fdE_n hv8 hb8 hf
      have hzI : zeI x.2.2.2.2.2.2.2.2.2.2 v2 = none := by unfold zeI; rw [hE]
      rw [if_neg hf]
      have hlt := nm_neg (v := v2) (es := x.2.2.2.2.2.2.2.2.2.2) (by omega)
      obtain ⟨x8, e8⟩ : ∃ x8, x8 = -1 - nI (nmC v2 x.2.2.2.2.2.2.2.2.2.2) := ⟨_, rfl⟩
      rw [← e8] at hlt
      rw [← e8]
      refine kjZ_y rfl rfl 1 _ _ _ _ ty2 ?_
      refine (And.intro (Nat.le_of_ble_eq_true rfl) ?_)
      refine kjZ_y rfl rfl 2 _ _ _ _ ty2 ?_
      refine And.intro (fun c3 => ?_) (fun c3 => ?_)
      · exact absurd (show (0 : Int32) ≤ x8 from c3) (Int32.not_le.mpr hlt)
      refine kjZ_y rfl rfl 3 _ _ _ _ ty2 ?_
      refine (And.intro (Nat.le_of_ble_eq_true rfl) (And.intro (Or.inl ⟨(Nat.le_of_ble_eq_true rfl), (ty2.k (by decide) rfl)⟩) (And.intro (Nat.le_of_ble_eq_true rfl) (And.intro (Nat.le_of_ble_eq_true rfl) (kjY_mono ty2 (fun q_ u3 ty3 xu3 h_ => ?_) (kx_told ty2 _))))))
      obtain ⟨rfl, q⟩ := h_
      intro _ _
      rcases q with ⟨rfl, q⟩ | ⟨rfl, q⟩
      · have q : ¬ u3.1 75 3 &&& 2 = 0 := q
        rw [f75, enF_2] at q
        refine kjZ_y rfl rfl 1 _ _ _ _ ty3 ?_
        refine And.intro (fun c4 => ?_) (fun c4 => ?_)
        rotate_left
        · exact absurd (show ¬ (1 : Int32) = 0 by decide) c4
        refine kjZ_y rfl rfl 2 _ _ _ _ ty3 ?_
        refine And.intro (fun c5 => ?_) (fun c5 => ?_)
        rotate_left
        · exact absurd hlt c5
        refine skip x8 (fun z => ?_)
        rw [hzI] at z
        exact q (bI_0.mp (of_decide_eq_true (show decide (bI b = 0) = true from z)))
      · have q : u3.1 75 3 &&& 2 = 0 := q
        rw [f75, enF_2] at q
        refine kjZ_y rfl rfl 1 _ _ _ _ ty3 ?_
        refine And.intro (fun c4 => ?_) (fun c4 => ?_)
        · exact absurd rfl c4
        have ep : Int32.ofInt (-1) - x8 = nI (nmC v2 x.2.2.2.2.2.2.2.2.2.2) := by rw [e8]; exact m1_m1 _
        refine kjZ_y rfl rfl 12 _ _ _ _ ty3 ?_
        refine (And.intro (ty3.k (by decide) rfl) (And.intro (ty3.k (by decide) rfl) (And.intro (Nat.le_of_ble_eq_true rfl) (And.intro (Or.inl ⟨(Nat.le_of_ble_eq_true rfl), (ty3.k (by decide) rfl)⟩) (And.intro (Nat.le_of_ble_eq_true rfl) (And.intro (Nat.le_of_ble_eq_true rfl) (kjY_mono ty3 (fun q_ u4 ty4 xu4 h_ => ?_) (kx_oins ty3 w1 hso hwk hZ p2 hf (by omega) (u3.2.1 53 9) _ _ ep rfl))))))))
        obtain ⟨rfl, jj, hj1, w4, s4⟩ := h_
        intro _ _
        have kv4 : (u4.2.2.2.1 x.1).1 = 11 := xu4.k ty3 kv1 (by decide)
        have hrk : zeN x.2.2.2.2.2.2.2.2.2.2 (zeI x.2.2.2.2.2.2.2.2.2.2 v2) s0 v2 = insL x.2.2.2.2.2.2.2.2.2.2 jj (v2, [], s0) := by
          rw [hzI]; rw [e9] at hj1; exact rkE_lp hj1 (nm_ne hv8 hb8 hf)
        refine kjZ_y rfl rfl 2 _ _ _ _ ty4 ?_
        refine next u4 (ca + 1) cb _ _ _ (by omega) (by rw [e4]; exact nI_1 ca) e5 ?_ ty4 ?_ s4 ?_ ?_
        · rw [hzI]; exact decide_eq_true (show bI b = 0 by rw [q]; rfl)
        · have ew : mkK x (esF (fun es => zeN es (zeI es v2) s0 v2) x.2.2.2.2.2) = mkK x (esF (fun es => insL es jj (v2, [], u3.2.1 53 9)) x.2.2.2.2.2) := by
            show mkK x (_, _, _, _, _, zeN x.2.2.2.2.2.2.2.2.2.2 _ _ _) = mkK x (_, _, _, _, _, insL _ _ _)
            rw [hrk, e9]
          rw [ew]; exact w4
        · rw [hzI]; exact rk_ZP hZ (nm_ne hv8 hb8 hf)
        · rw [hrk, insL_len]; exact Nat.le_refl _
    · rw [if_pos hf]
      have hcl9 := nmC_le v2 x.2.2.2.2.2.2.2.2.2.2
      obtain ⟨x8, e8⟩ : ∃ x8, x8 = nI (nmC v2 x.2.2.2.2.2.2.2.2.2.2) := ⟨_, rfl⟩
      rw [← e8]
      have hge : ¬ x8 < 0 := by rw [e8]; exact nI_n0 (by omega)
      obtain ⟨zz, hzm, hzv⟩ : ∃ zz ∈ x.2.2.2.2.2.2.2.2.2.2, zz.1 = v2 := by
        unfold nmF at hf
        rw [List.any_eq_true] at hf
        obtain ⟨zz, hz1, hz2⟩ := hf
        exact ⟨zz, hz1, of_decide_eq_true hz2⟩
      obtain ⟨jj, hjj, gjj⟩ := List.mem_iff_getElem.mp hzm
      have hjz : x.2.2.2.2.2.2.2.2.2.2[jj]? = some zz := by rw [List.getElem?_eq_getElem hjj, gjj]
      have hE := fdE_y hZ hjz hzv
      have hzI : zeI x.2.2.2.2.2.2.2.2.2.2 v2 = some (jj, zz.2.2) := by unfold zeI; rw [hE]; show (match x.2.2.2.2.2.2.2.2.2.2[jj]? with | some z => some (jj, z.2.2) | none => none) = _; rw [hjz]
      have hgo : zGo (bI a) (bI b) (bI c) (bI d1) (zeI x.2.2.2.2.2.2.2.2.2.2 v2) s0 = true ↔ ((bI a = 0 ∧ (bI c = 0 ∨ zz.2.2 < s0) ∧ (bI d1 = 0 ∨ s0 < zz.2.2)) ∧ ¬ zz.2.2 = s0) := by
        rw [hzI]
        show ((decide (bI a = 0 ∧ (bI c = 0 ∨ zz.2.2 < s0) ∧ (bI d1 = 0 ∨ s0 < zz.2.2))) && decide (¬ zz.2.2 = s0)) = true ↔ _
        rw [Bool.and_eq_true, decide_eq_true_iff, decide_eq_true_iff]
      refine kjZ_y rfl rfl 1 _ _ _ _ ty2 ?_
      refine (And.intro (Nat.le_of_ble_eq_true rfl) ?_)
      refine kjZ_y rfl rfl 2 _ _ _ _ ty2 ?_
      refine And.intro (fun c3 => ?_) (fun c3 => ?_)
      rotate_left
      · exact absurd (show (0 : Int32) ≤ x8 from Int32.not_lt.mp hge) c3
      refine kjZ_y rfl rfl 2 _ _ _ _ ty2 ?_
      refine And.intro (fun c5 => ?_) (fun c5 => ?_)
      · exact absurd c5 hge
      refine kjZ_y rfl rfl 3 _ _ _ _ ty2 ?_
      refine (And.intro (Nat.le_of_ble_eq_true rfl) (And.intro (Or.inl ⟨(Nat.le_of_ble_eq_true rfl), (ty2.k (by decide) rfl)⟩) (And.intro (Nat.le_of_ble_eq_true rfl) (And.intro (Nat.le_of_ble_eq_true rfl) (kjY_mono ty2 (fun q_ u3 ty3 xu3 h_ => ?_) (kx_told ty2 _))))))
      obtain ⟨rfl, q⟩ := h_
      intro _ _
      rcases q with ⟨rfl, q⟩ | ⟨rfl, q⟩
      · have q : ¬ u3.1 75 3 &&& 1 = 0 := q
        rw [f75, enF_1] at q
        refine kjZ_y rfl rfl 1 _ _ _ _ ty3 ?_
        refine And.intro (fun c4 => ?_) (fun c4 => ?_)
        rotate_left
        · exact absurd (show ¬ (1 : Int32) = 0 by decide) c4
        exact skip x8 (fun z => q (bI_0.mp (hgo.mp z).1.1))
      · have q : u3.1 75 3 &&& 1 = 0 := q
        rw [f75, enF_1] at q
        have qa : bI a = 0 := by rw [q]; rfl
        refine kjZ_y rfl rfl 1 _ _ _ _ ty3 ?_
        refine And.intro (fun c4 => ?_) (fun c4 => ?_)
        · exact absurd rfl c4
        refine kjZ_y rfl rfl 3 _ _ _ _ ty3 ?_
        refine (And.intro (Nat.le_of_ble_eq_true rfl) (And.intro (Or.inl ⟨(Nat.le_of_ble_eq_true rfl), (by assumption)⟩) (And.intro (Nat.le_of_ble_eq_true rfl) (And.intro (Nat.le_of_ble_eq_true rfl) (kjY_mono ty3 (fun q_ u4 ty4 xu4 h_ => ?_) (kx_osc ty3 w1 hso p2 hf hZ hjz hzv _ e8))))))
        obtain ⟨rfl, rfl⟩ := h_
        intro _ _
        refine kjZ_y rfl rfl 5 _ _ _ _ ty4 ?_
        refine (And.intro (ty4.k (by decide) rfl) (And.intro (ty4.k (by decide) rfl) (And.intro (fun c6 => ?_) (fun c6 => ?_))))
        · have c6 : zz.2.2 = u4.2.1 53 9 := (lg_cmp_eq _ _).mp c6
          rw [e9] at c6
          exact skip x8 (fun z => (hgo.mp z).2 c6)
        have c6b : ¬ zz.2.2 = s0 := fun z => c6 ((lg_cmp_eq _ _).mpr (by rw [z]; exact e9.symm))
        refine kjZ_y rfl rfl 4 _ _ _ _ ty4 ?_
        refine (And.intro (Nat.le_of_ble_eq_true rfl) (And.intro (Or.inl ⟨(Nat.le_of_ble_eq_true rfl), (by assumption)⟩) (And.intro (Nat.le_of_ble_eq_true rfl) (And.intro (Nat.le_of_ble_eq_true rfl) (kjY_mono ty4 (fun q_ u5 ty5 xu5 h_ => ?_) (kx_osc ty4 w1 hso p2 hf hZ hjz hzv _ e8))))))
        obtain ⟨rfl, rfl⟩ := h_
        intro _ _
        refine kjZ_y rfl rfl 4 _ _ _ _ ty5 ?_
        refine (And.intro (ty5.k (by decide) rfl) (And.intro (ty5.k (by decide) rfl) (And.intro (Nat.le_of_ble_eq_true rfl) (And.intro (Or.inl ⟨(Nat.le_of_ble_eq_true rfl), (ty5.k (by decide) rfl)⟩) (And.intro (Nat.le_of_ble_eq_true rfl) (And.intro (Nat.le_of_ble_eq_true rfl) (kjY_mono ty5 (fun q_ u6 ty6 xu6 h_ => ?_) (kx_mayBe ty5 _ _))))))))
        obtain ⟨rfl, q6⟩ := h_
        intro _ _
        have hmb : ((bI c = 0 ∨ zz.2.2 < s0) ∧ (bI d1 = 0 ∨ s0 < zz.2.2)) ↔ (((¬ u6.1 75 3 &&& 4 = 0) → zz.2.2 < u6.2.1 53 9) ∧ ((¬ u6.1 75 3 &&& 8 = 0) → u6.2.1 53 9 < zz.2.2)) := by
          rw [f75, enF_4, enF_8, e9, bI_0, bI_0]
          refine ⟨fun z => ⟨fun y => z.1.elim (fun k9 => absurd k9 y) id, fun y => z.2.elim (fun k9 => absurd k9 y) id⟩, fun z => ⟨?_, ?_⟩⟩
          · by_cases k9 : c = false
            · exact Or.inl k9
            · exact Or.inr (z.1 k9)
          · by_cases k9 : d1 = false
            · exact Or.inl k9
            · exact Or.inr (z.2 k9)
        rcases q6 with ⟨rfl, q6⟩ | ⟨rfl, q6⟩
        rotate_left
        · refine kjZ_y rfl rfl 1 _ _ _ _ ty6 ?_
          refine And.intro (fun c7 => ?_) (fun c7 => ?_)
          rotate_left
          · exact absurd rfl c7
          exact skip x8 (fun z => q6 (hmb.mp (hgo.mp z).1.2))
        refine kjZ_y rfl rfl 1 _ _ _ _ ty6 ?_
        refine And.intro (fun c7 => ?_) (fun c7 => ?_)
        · exact absurd (show (1 : Int32) = 0 from c7) (by decide)
        refine kjZ_y rfl rfl 7 _ _ _ _ ty6 ?_
        refine (And.intro (ty6.k (by decide) rfl) (And.intro (ty6.k (by decide) rfl) (And.intro (Nat.le_of_ble_eq_true rfl) (And.intro (Or.inl ⟨(Nat.le_of_ble_eq_true rfl), (ty6.k (by decide) rfl)⟩) (And.intro (Nat.le_of_ble_eq_true rfl) (And.intro (Nat.le_of_ble_eq_true rfl) (kjY_mono ty6 (fun q_ u7 ty7 xu7 h_ => ?_) (kx_oresc ty6 w1 hso hwk hZ p2 hf _ e8 (u6.2.1 53 9)))))))))
        obtain ⟨rfl, jn, zn, j2, hn1, hn2, hj1, w7, s7⟩ := h_
        intro _ _
        have kv7 : (u7.2.2.2.1 x.1).1 = 11 := xu7.k ty6 kv1 (by decide)
        have ejn : jn = jj := ZP_inj hZ hn1 hjz (hn2.trans hzv.symm)
        rw [ejn, e9] at hj1
        have hrk : zeN x.2.2.2.2.2.2.2.2.2.2 (zeI x.2.2.2.2.2.2.2.2.2.2 v2) s0 v2 = insL (cutL x.2.2.2.2.2.2.2.2.2.2 jj 1) j2 (v2, [], s0) := by
          rw [hzI]
          show rkE s0 v2 (rmE jj _) = _
          rw [rmE_cut]; exact rkE_lp hj1 (cut_ne hv8 hb8 hZ hjz hzv)
        refine kjZ_y rfl rfl 1 _ _ _ _ ty7 ?_
        refine next u7 ca (cb + 1) _ _ _ (by omega) e4 (by rw [e5]; exact nI_1 cb) (hgo.mpr ⟨⟨qa, hmb.mpr q6⟩, c6b⟩) ty7 ?_ s7 ?_ ?_
        · have ew : mkK x (esF (fun es => zeN es (zeI es v2) s0 v2) x.2.2.2.2.2) = mkK x (esF (fun es => insL (cutL es jn 1) j2 (v2, [], u6.2.1 53 9)) x.2.2.2.2.2) := by
            show mkK x (_, _, _, _, _, zeN x.2.2.2.2.2.2.2.2.2.2 _ _ _) = mkK x (_, _, _, _, _, insL (cutL _ _ _) _ _)
            rw [hrk, e9, ejn]
          rw [ew]; exact w7
        · rw [hzI]
          show ZP (rkE s0 v2 (rmE jj _))
          rw [rmE_cut]; exact rk_ZP (ZP_cut hZ _ _) (cut_ne hv8 hb8 hZ hjz hzv)
        · rw [hrk, insL_len]
          rw [cutL_len (by omega)]; omega
end KZADD
