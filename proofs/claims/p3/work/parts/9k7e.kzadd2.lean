/-! ZADD's pairs, whole. -/
theorem rkE_ne (s : Int64) (v : List Int32) (es : List AE) : rkE s v es ≠ [] := by
  intro h
  have := (rkE_m s v es).2
  rw [h] at this; exact absurd this (by simp)
theorem zeN_ne (es : List AE) (o : Option (Nat × Int64)) (s : Int64) (v : List Int32) : zeN es o s v ≠ [] := by
  cases o with
  | none => exact rkE_ne _ _ _
  | some q => exact rkE_ne _ _ _
theorem zeA_ne {nx xx gt lt : Int32} : ∀ (n : Nat) (r : List (List Int32)) (es : List AE), r.length ≤ n → (es ≠ [] ∨ ¬ zeC nx xx gt lt es r = 0) → zeA nx xx gt lt es r ≠ [] := by
  intro n
  induction n with
  | zero =>
    intro r es hl h
    have : r = [] := List.length_eq_zero_iff.mp (by omega)
    subst this
    exact h.elim id (fun z => absurd rfl z)
  | succ n ih =>
    intro r es hl h
    match r, hl, h with
    | [], _, h => exact h.elim id (fun z => absurd rfl z)
    | [s], _, h => exact h.elim id (fun z => absurd rfl z)
    | s :: v :: r, hl, h =>
      have hl : r.length + 2 ≤ n + 1 := hl
      cases hi : intF s with
      | none =>
        have e1 : zeA nx xx gt lt es (s :: v :: r) = es := by rw [zeA, hi]
        have e2 : zeC nx xx gt lt es (s :: v :: r) = 0 := by rw [zeC, hi]
        rw [e1]; exact h.elim id (fun z => absurd e2 z)
      | some s0 =>
        obtain ⟨g1, g2⟩ := zeA_1 (nx := nx) (xx := xx) (gt := gt) (lt := lt) (es := es) (v := v) (r := r) hi
        by_cases c : zGo nx xx gt lt (zeI es v) s0 = true
        · rw [(g1 c).1]; exact ih r _ (by omega) (Or.inl (zeN_ne _ _ _ _))
        · rw [(g2 c).1]; rw [(g2 c).2] at h; exact ih r _ (by omega) h
theorem zeC_0 {nx xx gt lt : Int32} : ∀ (n : Nat) (r : List (List Int32)) (es : List AE), r.length ≤ n → zeC nx xx gt lt es r = 0 → zeA nx xx gt lt es r = es := by
  intro n
  induction n with
  | zero =>
    intro r es hl h
    have : r = [] := List.length_eq_zero_iff.mp (by omega)
    subst this; rfl
  | succ n ih =>
    intro r es hl h
    match r, hl, h with
    | [], _, h => rfl
    | [s], _, h => rfl
    | s :: v :: r, hl, h =>
      have hl : r.length + 2 ≤ n + 1 := hl
      cases hi : intF s with
      | none => rw [zeA, hi]
      | some s0 =>
        obtain ⟨g1, g2⟩ := zeA_1 (nx := nx) (xx := xx) (gt := gt) (lt := lt) (es := es) (v := v) (r := r) hi
        by_cases c : zGo nx xx gt lt (zeI es v) s0 = true
        · rw [(g1 c).2] at h; exact absurd h (Nat.succ_ne_zero _)
        · rw [(g2 c).1]; rw [(g2 c).2] at h; exact ih r _ (by omega) h
theorem zeC_le {nx xx gt lt : Int32} : ∀ (n : Nat) (r : List (List Int32)) (es : List AE), r.length ≤ n → zeC nx xx gt lt es r ≤ r.length := by
  intro n
  induction n with
  | zero =>
    intro r es hl
    have : r = [] := List.length_eq_zero_iff.mp (by omega)
    subst this; exact Nat.le_refl _
  | succ n ih =>
    intro r es hl
    match r, hl with
    | [], _ => exact Nat.zero_le _
    | [s], _ => exact Nat.zero_le _
    | s :: v :: r, hl =>
      have hl : r.length + 2 ≤ n + 1 := hl
      show _ ≤ r.length + 2
      cases hi : intF s with
      | none => rw [zeC, hi]; exact Nat.zero_le _
      | some s0 =>
        obtain ⟨g1, g2⟩ := zeA_1 (nx := nx) (xx := xx) (gt := gt) (lt := lt) (es := es) (v := v) (r := r) hi
        by_cases c : zGo nx xx gt lt (zeI es v) s0 = true
        · rw [(g1 c).2]; have := ih r (zeN es (zeI es v) s0 v) (by omega); omega
        · rw [(g2 c).2]; have := ih r es (by omega); omega
theorem zaB_0 (nx : Int32) (A : List AK) (cur : Option Nat) : ∀ r : List (List Int32), ¬ zaB nx 0 A cur r = true
  | [] => Bool.false_ne_true
  | [_] => Bool.false_ne_true
  | s :: v :: r => by
    rw [zaB]
    cases intF s with
    | none => exact Bool.false_ne_true
    | some s0 =>
      show ¬ zAb nx 0 (zIx A cur v) s0 = true
      cases zIx A cur v with
      | none => exact Bool.false_ne_true
      | some q => exact fun z => (of_decide_eq_true (show decide ((¬ (0 : Int32) = 0) ∧ nx = 0 ∧ ¬ ovI q.2 s0 = 0) = true from z)).1 rfl
theorem zaN_xx {nx xx gt lt : Int32} (hx : ¬ xx = 0) {w : List Int32} {A : List AK} : ∀ (n : Nat) (r : List (List Int32)), r.length ≤ n → zaN nx xx gt lt 0 w A none r = 0 := by
  intro n
  induction n with
  | zero =>
    intro r hl
    have : r = [] := List.length_eq_zero_iff.mp (by omega)
    subst this; rfl
  | succ n ih =>
    intro r hl
    match r, hl with
    | [], _ => rfl
    | [s], _ => rfl
    | s :: v :: r, hl =>
      have hl : r.length + 2 ≤ n + 1 := hl
      rw [zaN]
      cases hi : intF s with
      | none => rfl
      | some s0 =>
        show (if zGo nx xx gt lt none (zSc nx 0 none s0) = true then _ else zaN nx xx gt lt 0 w A none r) = 0
        rw [if_neg (show ¬ zGo nx xx gt lt none (zSc nx 0 none s0) = true from fun z => hx (of_decide_eq_true (show decide (xx = 0) = true from z)))]
        exact ih r (by omega)
theorem za_mk {nx xx gt lt : Int32} (hx : xx = 0) {w : List Int32} {A A' : List AK} {p : Nat} (hor : orA A w 4 = (A', p)) (hky : kyI A' w = some p) {s v : List Int32} {r : List (List Int32)} {s0 : Int64} (hi : intF s = some s0) (hix : zIx A' (some p) v = none) : zaA nx xx gt lt 0 w A none (s :: v :: r) = zaA nx xx gt lt 0 w A' (some p) (s :: v :: r) ∧ zaN nx xx gt lt 0 w A none (s :: v :: r) = zaN nx xx gt lt 0 w A' (some p) (s :: v :: r) := by
  have hg : zGo nx xx gt lt none s0 = true := decide_eq_true hx
  have e1 : zNew A w none none s0 v = zNew A' w (some p) none s0 v := by
    show (upA (orA A w 4).1 (orA A w 4).2 (esF (rkE s0 v)), (orA A w 4).2) = (upA (orA A' w 4).1 (orA A' w 4).2 (esF (rkE s0 v)), (orA A' w 4).2)
    rw [orA_some hky, hor]
  rw [zaA, zaA, zaN, zaN, hi]
  show (if zGo nx xx gt lt none s0 = true then _ else _) = (if zGo nx xx gt lt (zIx A' (some p) v) (zSc nx 0 (zIx A' (some p) v) s0) = true then _ else _) ∧ (if zGo nx xx gt lt none s0 = true then _ else _) = (if zGo nx xx gt lt (zIx A' (some p) v) (zSc nx 0 (zIx A' (some p) v) s0) = true then _ else _)
  rw [hix]
  show (if zGo nx xx gt lt none s0 = true then zaA nx xx gt lt 0 w (zNew A w none none s0 v).1 (some (zNew A w none none s0 v).2) r else _) = (if zGo nx xx gt lt none s0 = true then zaA nx xx gt lt 0 w (zNew A' w (some p) none s0 v).1 (some (zNew A' w (some p) none s0 v).2) r else _) ∧ (if zGo nx xx gt lt none s0 = true then zaN nx xx gt lt 0 w (zNew A w none none s0 v).1 (some (zNew A w none none s0 v).2) r + 1 else _) = (if zGo nx xx gt lt none s0 = true then zaN nx xx gt lt 0 w (zNew A' w (some p) none s0 v).1 (some (zNew A' w (some p) none s0 v).2) r + 1 else _)
  rw [if_pos hg, if_pos hg, if_pos hg, if_pos hg, e1]
  exact ⟨rfl, rfl⟩
section KZADD2
variable {Y : Nat → MethodName × ByteArray} {d : Nat} {σ0 σ u : kS} {B ws nm nm' : List (List Int32)} {ks : List KC}
/-- the answer -/
theorem k_z103 {o : Option (List AK)} (z : kS) (nm' : List (List Int32)) (ks' : List KC) (o2 o3 : Value) (x1 x4 x5 x6 : Int32) (l7 l8 : Option Value) (tz : kTY z) (wz : KWd σ0 B z ws nm' ks') (hz : ∀ z2, KWd σ0 B z2 ws nm' ks' → SCl scA z z2 → cdP σ0 B σ ws nm ks o none z2) : kjY kPP (kQQ Y) (d + 6) 239 103 [some (.ref 75), some (.int x1), some o2, some o3, some (.int x4), some (.int x5), some (.int x6), l7, l8] [] z (cdP σ0 B σ ws nm ks o) := by
  obtain ⟨b, hb, eb⟩ := wz.2.2.2.2.2.2.1
  have kb := ob_k tz (ANn_b b (ANb_n b hb)).1
  have fin : ∀ x : Int64, kjY kPP (kQQ Y) (d + 6) 239 117 [some (.ref 75), some (.int x1), some o2, some o3, some (.int x4), some (.int x5), some (.int x6), l7, l8] [.long x, .ref b] z (cdP σ0 B σ ws nm ks o) := by
    intro x
    refine kjZ_y rfl rfl 1 _ _ _ _ tz ?_
    refine (And.intro (Nat.le_of_ble_eq_true rfl) (And.intro (Or.inl ⟨(Nat.le_of_ble_eq_true rfl), (by assumption)⟩) (And.intro (Nat.le_of_ble_eq_true rfl) (And.intro (Nat.le_of_ble_eq_true rfl) (kjY_mono tz (fun q_ u5 ty5 xu5 h_ => ?_) (kx_number tz wz hb _))))))
    obtain ⟨rfl, w5, s5⟩ := h_
    intro _ _
    refine kjZ_y rfl rfl 1 _ _ _ _ ty5 ?_
    refine And.intro rfl (And.intro rfl ?_)
    exact hz u5 w5 s5
  refine kjZ_y rfl rfl 6 _ _ _ _ tz ?_
  refine (And.intro (tz.k (by decide) rfl) (And.intro (tz.k (by decide) rfl) (Exists.intro _ (And.intro eb (And.intro (Nat.le_of_ble_eq_true rfl) (And.intro (Or.inl ⟨(Nat.le_of_ble_eq_true rfl), (tz.k (by decide) rfl)⟩) (And.intro (Nat.le_of_ble_eq_true rfl) (And.intro (Nat.le_of_ble_eq_true rfl) (kjY_mono tz (fun q_ u1 ty1 xu1 h_ => ?_) (kx_told tz _))))))))))
  obtain ⟨rfl, q⟩ := h_
  intro _ _
  rcases q with ⟨rfl, q⟩ | ⟨rfl, q⟩
  · refine kjZ_y rfl rfl 1 _ _ _ _ ty1 ?_
    refine And.intro (fun c => ?_) (fun c => ?_)
    · exact absurd (show (1 : Int32) = 0 from c) (by decide)
    refine kjZ_y rfl rfl 5 _ _ _ _ ty1 ?_
    exact fin _
  · refine kjZ_y rfl rfl 1 _ _ _ _ ty1 ?_
    refine And.intro (fun c => ?_) (fun c => ?_)
    rotate_left
    · exact absurd rfl c
    refine kjZ_y rfl rfl 2 _ _ _ _ ty1 ?_
    exact fin _
/-- no key, and none may be made -/
theorem k_zadX_l (hB : BOK B ws) {o : Option (List AK)} (hr : RSD ks) (ho : o = none) (a c d1 e : Bool) (x1 : Int32) :
    ∀ (f j : Nat) (x6 : Int32) (l7 l8 : Option Value) (nm' : List (List Int32)) (u : kS), j + 2 * f = ws.length → x6 = nI j → zOK (ws.drop j) → kTY u → PRE nm nm' → KWd σ0 B u ws nm' ks → SCl scB σ u → u.1 75 3 = enF a true c d1 e false →
    kjY kPP (kQQ Y) (d + 6) 239 9 [some (.ref 75), some (.int x1), some .null, some .null, some (.int (Int32.ofInt 0)), some (.int (Int32.ofInt 0)), some (.int x6), l7, l8] [] u (cdP σ0 B σ ws nm ks o) := by
  intro f
  induction f with
  | zero =>
    intro j x6 l7 l8 nm' u hj e6 hok tu hp wu su h75
    obtain ⟨g, M, -, -, ⟨h4, h1024⟩, -⟩ := wu.2.2.2.1
    refine kjZ_y rfl rfl 7 _ _ _ _ tu ?_
    refine (And.intro (tu.k (by decide) rfl) (And.intro (tu.k (by decide) rfl) (And.intro (fun c1 => ?_) (fun c1 => ?_))))
    rotate_left
    · refine absurd (show u.1 53 4 ≤ x6 + Int32.ofInt 1 from ?_) c1
      rw [h4, e6, show nI j + Int32.ofInt 1 = nI (j + 1) from nI_1 j, nle (by omega) (by omega)]; omega
    refine kjZ_y rfl rfl 4 _ _ _ _ tu ?_
    refine And.intro (fun c2 => ?_) (fun c2 => ?_)
    rotate_left
    · exact absurd (show Int32.ofInt 0 + Int32.ofInt 0 ≤ 0 by decide) c2
    exact k_z103 u nm' ks .null .null x1 _ _ x6 l7 l8 tu wu (fun z2 w2 s2 => cd_no hp w2 hr ((su.sub scHB).tr s2.h) ho)
  | succ f ih =>
    intro j x6 l7 l8 nm' u hj e6 hok tu hp wu su h75
    obtain ⟨g, M, -, -, ⟨h4, h1024⟩, -⟩ := wu.2.2.2.1
    have hjl : j + 1 < ws.length := by omega
    have hd : ws.drop j = ws[j] :: ws[j + 1] :: ws.drop (j + 2) := by
      rw [List.drop_eq_getElem_cons (by omega), List.drop_eq_getElem_cons hjl]
    refine kjZ_y rfl rfl 7 _ _ _ _ tu ?_
    refine (And.intro (tu.k (by decide) rfl) (And.intro (tu.k (by decide) rfl) (And.intro (fun c1 => ?_) (fun c1 => ?_))))
    · refine absurd (show u.1 53 4 ≤ x6 + Int32.ofInt 1 from c1) ?_
      rw [h4, e6, show nI j + Int32.ofInt 1 = nI (j + 1) from nI_1 j, nle (by omega) (by omega)]; omega
    have hv := List.getElem?_eq_getElem (show j < ws.length by omega)
    have hv2 := List.getElem?_eq_getElem hjl
    generalize ws[j] = v at hv hd
    generalize ws[j + 1] = v2 at hv2 hd
    rw [hd] at hok
    obtain ⟨⟨s0, hs0⟩, hok⟩ := hok
    refine kjZ_y rfl rfl 4 _ _ _ _ tu ?_
    refine (And.intro (tu.k (by decide) rfl) (And.intro (Nat.le_of_ble_eq_true rfl) (And.intro (Or.inl ⟨(Nat.le_of_ble_eq_true rfl), (tu.k (by decide) rfl)⟩) (And.intro (Nat.le_of_ble_eq_true rfl) (And.intro (Nat.le_of_ble_eq_true rfl) (kjY_mono tu (fun q_ u0 ty0 xu0 h_ => ?_) (kx_lacksInteger tu wu hv _ e6)))))))
    obtain ⟨w0, s9, q⟩ := h_
    intro _ _
    rcases q with ⟨n, q1, rfl, e9⟩ | ⟨q1, rfl⟩
    rotate_left
    · rw [hs0] at q1; cases q1
    refine kjZ_y rfl rfl 1 _ _ _ _ ty0 ?_
    refine And.intro (fun c2 => ?_) (fun c2 => ?_)
    rotate_left
    · exact absurd rfl c2
    refine kjZ_y rfl rfl 6 _ _ _ _ ty0 ?_
    refine (And.intro (ty0.k (by decide) rfl) (And.intro (Nat.le_of_ble_eq_true rfl) (And.intro (Or.inl ⟨(Nat.le_of_ble_eq_true rfl), (ty0.k (by decide) rfl)⟩) (And.intro (Nat.le_of_ble_eq_true rfl) (And.intro (Nat.le_of_ble_eq_true rfl) (kjY_mono ty0 (fun q_ u1 ty1 xu1 h_ => ?_) (kx_id ty0 w0 hB hv2 _ (by rw [e6]; exact nI_1 j))))))))
    obtain ⟨k, nm2, rfl, p2, p3, w1, s1⟩ := h_
    intro _ _
    refine kjZ_y rfl rfl 6 _ _ _ _ ty1 ?_
    refine (And.intro (Nat.le_of_ble_eq_true rfl) (And.intro (ty1.k (by decide) rfl) (And.intro (Nat.le_of_ble_eq_true rfl) (And.intro (Or.inl ⟨(Nat.le_of_ble_eq_true rfl), (ty1.k (by decide) rfl)⟩) (And.intro (Nat.le_of_ble_eq_true rfl) (And.intro (Nat.le_of_ble_eq_true rfl) (kjY_mono ty1 (fun q_ u2 ty2 xu2 h_ => ?_) (kx_placeOf0 ty1 _))))))))
    obtain ⟨rfl, rfl⟩ := h_
    intro _ _
    have f75 : u2.1 75 3 = enF a true c d1 e false := ((s1 (75, 3) (by decide)).1.trans (s9 (75, 3) (by decide)).1).trans h75
    refine kjZ_y rfl rfl 1 _ _ _ _ ty2 ?_
    refine (And.intro (Nat.le_of_ble_eq_true rfl) ?_)
    refine kjZ_y rfl rfl 2 _ _ _ _ ty2 ?_
    refine And.intro (fun c3 => ?_) (fun c3 => ?_)
    · exact absurd (show (0 : Int32) ≤ -1 from c3) (by decide)
    refine kjZ_y rfl rfl 3 _ _ _ _ ty2 ?_
    refine (And.intro (Nat.le_of_ble_eq_true rfl) (And.intro (Or.inl ⟨(Nat.le_of_ble_eq_true rfl), (ty2.k (by decide) rfl)⟩) (And.intro (Nat.le_of_ble_eq_true rfl) (And.intro (Nat.le_of_ble_eq_true rfl) (kjY_mono ty2 (fun q_ u3 ty3 xu3 h_ => ?_) (kx_told ty2 _))))))
    obtain ⟨rfl, q⟩ := h_
    intro _ _
    rcases q with ⟨rfl, q⟩ | ⟨rfl, q⟩
    rotate_left
    · have q : u3.1 75 3 &&& 2 = 0 := q
      rw [f75, enF_2] at q; cases q
    refine kjZ_y rfl rfl 1 _ _ _ _ ty3 ?_
    refine And.intro (fun c4 => ?_) (fun c4 => ?_)
    rotate_left
    · exact absurd (show ¬ (1 : Int32) = 0 by decide) c4
    refine kjZ_y rfl rfl 2 _ _ _ _ ty3 ?_
    refine And.intro (fun c5 => ?_) (fun c5 => ?_)
    rotate_left
    · exact absurd (show (-1 : Int32) < 0 by decide) c5
    refine kjZ_y rfl rfl 2 _ _ _ _ ty3 ?_
    exact ih (j + 2) _ _ _ nm2 u3 (by omega) (by rw [e6]; exact nI_add j 2) hok ty3 (hp.tr p3) w1 ((su.tr s9).tr (s1.sub scBA)) f75
theorem kx_addPairs0 (ty : kTY σ) (w : KWd σ0 B σ ws nm ks) (hr : RSD ks) (hB : BOK B ws) {k : Nat} {v : List Int32} (hk : nm[k]? = some v) (q3 : kyI (skA ks) v = none) (a b c d1 e : Bool) (h75 : σ.1 75 3 = enF a b c d1 e false) {p m : Nat} (h754 : σ.1 75 4 = nI p) (hpm : p + 2 * (m + 1) = ws.length) (hok : zOK (ws.drop p)) (hk1 : ks.length + 1 ≤ 2600) (hcl : 3 * (clA (skA ks) + 2 * ws.length) ≤ 49000) (x1 : Int32) (e1 : x1 = nI k) :
    kjY kPP (kQQ Y) (d + 6) 239 0 (mjL0 9 [.ref 75, .int x1, .null]) [] σ (cdP σ0 B σ ws nm ks (zdF (bI a) (bI b) (bI c) (bI d1) 0 (skA ks) v (ws.drop p))) := by
  obtain ⟨g, M, -, -, ⟨h4, h1024⟩, -⟩ := w.2.2.2.1
  have hdl : (ws.drop p).length ≤ ws.length := by rw [List.length_drop]; omega
  have hzd : zdF (bI a) (bI b) (bI c) (bI d1) 0 (skA ks) v (ws.drop p) = if zaN (bI a) (bI b) (bI c) (bI d1) 0 v (skA ks) none (ws.drop p) = 0 then none else some (zaA (bI a) (bI b) (bI c) (bI d1) 0 v (skA ks) none (ws.drop p)) := by
    unfold zdF; rw [q3, if_neg (zaB_0 _ _ _ _)]
  refine kjZ_y rfl rfl 9 _ _ _ _ ty ?_
  refine (And.intro (Nat.le_of_ble_eq_true rfl) (And.intro (Nat.le_of_ble_eq_true rfl) (And.intro (Nat.le_of_ble_eq_true rfl) (And.intro (ty.k (by decide) rfl) (And.intro (Nat.le_of_ble_eq_true rfl) ?_)))))
  cases b with
  | true =>
    refine k_zadX_l (d := d) hB hr ?_ a c d1 e x1 (m + 1) p _ _ _ nm σ hpm h754 hok ty PRE.rf w SCl.rf h75
    rw [hzd, zaN_xx (by decide) _ _ (Nat.le_refl _), if_pos rfl]
  | false =>
    have hjl : p + 1 < ws.length := by omega
    have hd : ws.drop p = ws[p] :: ws[p + 1] :: ws.drop (p + 2) := by
      rw [List.drop_eq_getElem_cons (by omega), List.drop_eq_getElem_cons hjl]
    obtain ⟨x6, e6⟩ : ∃ x6, x6 = σ.1 75 4 := ⟨_, rfl⟩
    rw [← e6]
    rw [h754] at e6
    refine kjZ_y rfl rfl 7 _ _ _ _ ty ?_
    refine (And.intro (ty.k (by decide) rfl) (And.intro (ty.k (by decide) rfl) (And.intro (fun c1 => ?_) (fun c1 => ?_))))
    · refine absurd (show σ.1 53 4 ≤ x6 + Int32.ofInt 1 from c1) ?_
      rw [h4, e6, show nI p + Int32.ofInt 1 = nI (p + 1) from nI_1 p, nle (by omega) (by omega)]; omega
    have hv := List.getElem?_eq_getElem (show p < ws.length by omega)
    have hv2 := List.getElem?_eq_getElem hjl
    generalize ws[p] = s at hv hd
    generalize ws[p + 1] = v2 at hv2 hd
    rw [hd] at hok hzd hdl
    rw [hd]
    obtain ⟨⟨s0, hs0⟩, hok⟩ := hok
    refine kjZ_y rfl rfl 4 _ _ _ _ ty ?_
    refine (And.intro (ty.k (by decide) rfl) (And.intro (Nat.le_of_ble_eq_true rfl) (And.intro (Or.inl ⟨(Nat.le_of_ble_eq_true rfl), (ty.k (by decide) rfl)⟩) (And.intro (Nat.le_of_ble_eq_true rfl) (And.intro (Nat.le_of_ble_eq_true rfl) (kjY_mono ty (fun q_ u0 ty0 xu0 h_ => ?_) (kx_lacksInteger ty w hv _ e6)))))))
    obtain ⟨w0, s9, q⟩ := h_
    intro _ _
    rcases q with ⟨n, q1, rfl, e9⟩ | ⟨q1, rfl⟩
    rotate_left
    · rw [hs0] at q1; cases q1
    rw [hs0] at q1
    obtain rfl := Option.some.inj q1
    refine kjZ_y rfl rfl 1 _ _ _ _ ty0 ?_
    refine And.intro (fun c2 => ?_) (fun c2 => ?_)
    rotate_left
    · exact absurd rfl c2
    refine kjZ_y rfl rfl 6 _ _ _ _ ty0 ?_
    refine (And.intro (ty0.k (by decide) rfl) (And.intro (Nat.le_of_ble_eq_true rfl) (And.intro (Or.inl ⟨(Nat.le_of_ble_eq_true rfl), (ty0.k (by decide) rfl)⟩) (And.intro (Nat.le_of_ble_eq_true rfl) (And.intro (Nat.le_of_ble_eq_true rfl) (kjY_mono ty0 (fun q_ u1 ty1 xu1 h_ => ?_) (kx_id ty0 w0 hB hv2 _ (by rw [e6]; exact nI_1 p))))))))
    obtain ⟨k2, nm2, rfl, p2, p3, w1, s1⟩ := h_
    intro _ _
    refine kjZ_y rfl rfl 6 _ _ _ _ ty1 ?_
    refine (And.intro (Nat.le_of_ble_eq_true rfl) (And.intro (ty1.k (by decide) rfl) (And.intro (Nat.le_of_ble_eq_true rfl) (And.intro (Or.inl ⟨(Nat.le_of_ble_eq_true rfl), (ty1.k (by decide) rfl)⟩) (And.intro (Nat.le_of_ble_eq_true rfl) (And.intro (Nat.le_of_ble_eq_true rfl) (kjY_mono ty1 (fun q_ u2 ty2 xu2 h_ => ?_) (kx_placeOf0 ty1 _))))))))
    obtain ⟨rfl, rfl⟩ := h_
    intro _ _
    have f75 : u2.1 75 3 = enF a false c d1 e false := ((s1 (75, 3) (by decide)).1.trans (s9 (75, 3) (by decide)).1).trans h75
    have e9 : u2.2.1 53 9 = s0 := (s1 (53, 9) (by decide)).2.1.trans e9
    refine kjZ_y rfl rfl 1 _ _ _ _ ty2 ?_
    refine (And.intro (Nat.le_of_ble_eq_true rfl) ?_)
    refine kjZ_y rfl rfl 2 _ _ _ _ ty2 ?_
    refine And.intro (fun c3 => ?_) (fun c3 => ?_)
    · exact absurd (show (0 : Int32) ≤ -1 from c3) (by decide)
    refine kjZ_y rfl rfl 3 _ _ _ _ ty2 ?_
    refine (And.intro (Nat.le_of_ble_eq_true rfl) (And.intro (Or.inl ⟨(Nat.le_of_ble_eq_true rfl), (ty2.k (by decide) rfl)⟩) (And.intro (Nat.le_of_ble_eq_true rfl) (And.intro (Nat.le_of_ble_eq_true rfl) (kjY_mono ty2 (fun q_ u3 ty3 xu3 h_ => ?_) (kx_told ty2 _))))))
    obtain ⟨rfl, q⟩ := h_
    intro _ _
    rcases q with ⟨rfl, q⟩ | ⟨rfl, q⟩
    · have q : ¬ u3.1 75 3 &&& 2 = 0 := q
      rw [f75, enF_2] at q; exact absurd rfl q
    refine kjZ_y rfl rfl 1 _ _ _ _ ty3 ?_
    refine And.intro (fun c4 => ?_) (fun c4 => ?_)
    · exact absurd rfl c4
    refine kjZ_y rfl rfl 7 _ _ _ _ ty3 ?_
    refine (And.intro (ty3.k (by decide) rfl) (And.intro (Nat.le_of_ble_eq_true rfl) (And.intro (Or.inl ⟨(Nat.le_of_ble_eq_true rfl), (ty3.k (by decide) rfl)⟩) (And.intro (Nat.le_of_ble_eq_true rfl) (And.intro (Nat.le_of_ble_eq_true rfl) (kjY_mono ty3 (fun q_ u4 ty4 xu4 h_ => ?_) (kx_fresh ty3 w1 (p3.get hk) (s := 4) (by decide) (fun _ => hk1) _ _ e1 rfl)))))))
    obtain ⟨P, x, Q, rfl, w4, s4, g6, g, gn, g2⟩ := h_
    intro _ _
    have hky : kyI (skA (P ++ x :: Q)) v = some P.length := by
      have : x.2.2.2.2.2.1 = v := by rw [g]
      rw [← this]; exact ky_k w4.srt
    rcases g2 with ⟨y, -, -, g4, -⟩ | ⟨g3, g4, g5, -⟩
    · rw [q3] at g4; cases g4
    have hor : orA (skA ks) v 4 = (skA (P ++ x :: Q), P.length) := by
      rw [orA_none g4, ← g5, g3, skA_app]
      unfold inA
      have el : P.length = (skA P).length := (skA_len P).symm
      rw [el, List.take_left, List.drop_left, skA_app, skA_cons, g]; rfl
    have hso : x.2.2.2.2.2.2.1 = 4 := by rw [g]; rfl
    have hs0' : ¬ x.2.2.2.2.2.2.1 = 0 := by rw [hso]; decide
    have hes : x.2.2.2.2.2.2.2.2.2.2 = [] := by rw [g]
    have hwk : wkO x := by
      unfold wkO; rw [g6, g]; rfl
    have hclx : clA (skA (P ++ x :: Q)) ≤ clA (skA ks) := by
      rw [clA_at, g3, clA_app, hes]; show _ + _ * 0 + _ ≤ _; omega
    have hno : ¬ nmF v2 x.2.2.2.2.2.2.2.2.2.2 = true := by rw [hes]; exact Bool.false_ne_true
    have hZ : ZP x.2.2.2.2.2.2.2.2.2.2 := by rw [hes]; exact List.Pairwise.nil
    have hcn : nmC v2 x.2.2.2.2.2.2.2.2.2.2 = 0 := by rw [hes]; rfl
    have kv4 := (w4.sz hs0').2.2
    refine kjZ_y rfl rfl 11 _ _ _ _ ty4 ?_
    refine (And.intro (Nat.le_of_ble_eq_true rfl) (And.intro (ty4.k (by decide) rfl) (And.intro (ty4.k (by decide) rfl) (And.intro (Nat.le_of_ble_eq_true rfl) (And.intro (Or.inl ⟨(Nat.le_of_ble_eq_true rfl), (ty4.k (by decide) rfl)⟩) (And.intro (Nat.le_of_ble_eq_true rfl) (And.intro (Nat.le_of_ble_eq_true rfl) (kjY_mono ty4 (fun q_ u5 ty5 xu5 h_ => ?_) (kx_oins ty4 w4 hso hwk hZ p2 hno (by rw [hes]; show 4 * (2 * 0 + 1) + _ ≤ _; omega) (u4.2.1 53 9) _ _ (by rw [hcn]; decide) rfl)))))))))
    obtain ⟨rfl, jj, hj1, w5, s5⟩ := h_
    intro _ _
    have kv5 : (u5.2.2.2.1 x.1).1 = 11 := xu5.k ty4 kv4 (by decide)
    have e94 : u4.2.1 53 9 = s0 := (s4 (53, 9) (by decide)).2.1.trans e9
    have hzI : zeI x.2.2.2.2.2.2.2.2.2.2 v2 = none := by rw [hes]; rfl
    have hrk : zeN x.2.2.2.2.2.2.2.2.2.2 (zeI x.2.2.2.2.2.2.2.2.2.2 v2) s0 v2 = insL x.2.2.2.2.2.2.2.2.2.2 jj (v2, [], s0) := by
      rw [hzI]; rw [e94] at hj1; exact rkE_lp hj1 (fun z hz => by rw [hes] at hz; cases hz)
    have hgo : zGo (bI a) (bI false) (bI c) (bI d1) (zeI x.2.2.2.2.2.2.2.2.2.2 v2) s0 = true := by rw [hzI]; exact decide_eq_true (show bI false = 0 from rfl)
    obtain ⟨g7, g8⟩ := (zeA_1 (nx := bI a) (xx := bI false) (gt := bI c) (lt := bI d1) (es := x.2.2.2.2.2.2.2.2.2.2) (v := v2) (r := ws.drop (p + 2)) hs0).1 hgo
    have hix : zIx (skA (P ++ x :: Q)) (some P.length) v2 = none := by rw [zIx_k]; exact hzI
    obtain ⟨m1, m2⟩ := za_mk (nx := bI a) (xx := bI false) (gt := bI c) (lt := bI d1) rfl hor hky (r := ws.drop (p + 2)) hs0 hix
    obtain ⟨m3, m4⟩ := zaA_k (nx := bI a) (xx := bI false) (gt := bI c) (lt := bI d1) (w := v) (P := P) (Q := Q) _ (s :: v2 :: ws.drop (p + 2)) x (Nat.le_refl _) hwk hky
    rw [m1, m2, m3, m4, if_neg (by rw [g8]; exact Nat.succ_ne_zero _)] at hzd
    have hne : zeA (bI a) (bI false) (bI c) (bI d1) x.2.2.2.2.2.2.2.2.2.2 (s :: v2 :: ws.drop (p + 2)) ≠ [] := zeA_ne _ _ _ (Nat.le_refl _) (Or.inr (by rw [g8]; exact Nat.succ_ne_zero _))
    have hC9 := zeC_le (nx := bI a) (xx := bI false) (gt := bI c) (lt := bI d1) _ (s :: v2 :: ws.drop (p + 2)) x.2.2.2.2.2.2.2.2.2.2 (Nat.le_refl _)
    have pA := p3
    have sB : SCl scB σ u5 := (s9.tr (s1.sub scBA)).tr ((s4.tr s5).sub scBA)
    have w5' : KWd σ0 B u5 ws nm2 (P ++ mkK x (esF (fun es => zeN es (zeI es v2) s0 v2) x.2.2.2.2.2) :: Q) := by
      have ew : mkK x (esF (fun es => zeN es (zeI es v2) s0 v2) x.2.2.2.2.2) = mkK x (esF (fun es => insL es jj (v2, [], u4.2.1 53 9)) x.2.2.2.2.2) := by
        show mkK x (_, _, _, _, _, zeN x.2.2.2.2.2.2.2.2.2.2 _ _ _) = mkK x (_, _, _, _, _, insL _ _ _)
        rw [hrk, e94]
      rw [ew]; exact w5
    have hrs : RSD (P ++ Q) := by rw [← g3]; exact hr
    refine kjZ_y rfl rfl 4 _ _ _ _ ty5 ?_
    refine k_zad0_l (σ := u5) (d := d) (nm := nm2) _ hB (P := P) (Q := Q) (C := clA (skA ks) + 2 * ws.length) hcl a false c d1 e x1 x.1 (mkK x (esF (fun es => zeA (bI a) (bI false) (bI c) (bI d1) es (s :: v2 :: ws.drop (p + 2))) x.2.2.2.2.2)) (zeC (bI a) (bI false) (bI c) (bI d1) x.2.2.2.2.2.2.2.2.2.2 (s :: v2 :: ws.drop (p + 2))) (fun u nm' ca cb x4 x5 x6 l7 l8 hN e4 e5 tu hp wu su => ?_) m (p + 2) 1 0 _ _ _ _ _ nm2 (mkK x (esF (fun es => zeN es (zeI es v2) s0 v2) x.2.2.2.2.2)) u5 (by omega) (by rw [e6]; exact nI_add p 2) rfl rfl ?_ hok ty5 PRE.rf w5' SCl.rf (((s4.tr s5) (75, 3) (by decide)).1.trans f75) hso (wkO_mk _ _) ?_ rfl ?_ ?_
    · have kvu : (u.2.2.2.1 x.1).1 = 11 := (wu.sz (x := mkK x (esF (fun es => zeA (bI a) (bI false) (bI c) (bI d1) es (s :: v2 :: ws.drop (p + 2))) x.2.2.2.2.2)) hs0').2.2
      refine kjZ_y rfl rfl 4 _ _ _ _ tu ?_
      refine And.intro (fun c5 => ?_) (fun c5 => ?_)
      · refine absurd (show x4 + x5 ≤ nI 0 from c5) ?_
        rw [List.length_cons, List.length_cons] at hdl hC9
        rw [e4, e5, nI_add, nle (by omega) (by decide), hN, g8]; omega
      refine kjZ_y rfl rfl 5 _ _ _ _ tu ?_
      refine (And.intro (tu.k (by decide) rfl) (And.intro (Nat.le_of_ble_eq_true rfl) (And.intro (Or.inl ⟨(Nat.le_of_ble_eq_true rfl), (tu.k (by decide) rfl)⟩) (And.intro (Nat.le_of_ble_eq_true rfl) (And.intro (Nat.le_of_ble_eq_true rfl) (kjY_mono tu (fun q_ u6 ty6 xu6 h_ => ?_) (kx_settle (x := mkK x (esF (fun es => zeA (bI a) (bI false) (bI c) (bI d1) es (s :: v2 :: ws.drop (p + 2))) x.2.2.2.2.2)) tu wu (k := k) (by show nm'[k]? = some x.2.2.2.2.2.1; rw [g]; exact hp.get (p3.get hk)) _ e1)))))))
      obtain ⟨q9, q9b⟩ := h_
      intro _ _
      obtain ⟨rfl, nmA, ksA, pA5, wA, rA, eA, cA, sA5⟩ := cd_se (σ := σ) (nm := nm) (pA.tr hp) ((sB.tr su).sub (fun q hq => scHB q (scGH q hq))) ⟨q9, q9b⟩ (wkO_mk _ _) hrs (A := skA (P ++ mkK x (esF (fun es => zeA (bI a) (bI false) (bI c) (bI d1) es (s :: v2 :: ws.drop (p + 2))) x.2.2.2.2.2) :: Q)) (fun z => absurd z.2 hne) (fun _ => rfl)
      exact k_z103 u6 _ _ .null (.ref x.1) x1 x4 x5 x6 l7 l8 ty6 wA (fun z2 wz sz => cd_ok pA5 wz rA eA ((sz (59, 18) (by decide)).1.trans cA) (sA5.tr sz.g) hzd)
    · show 1 + 0 + zeC _ _ _ _ (zeN x.2.2.2.2.2.2.2.2.2.2 (zeI x.2.2.2.2.2.2.2.2.2.2 v2) s0 v2) _ = _
      rw [g8]; omega
    · show ZP (zeN x.2.2.2.2.2.2.2.2.2.2 (zeI x.2.2.2.2.2.2.2.2.2.2 v2) s0 v2)
      rw [hzI]; exact rk_ZP hZ (fun z hz => by rw [hes] at hz; cases hz)
    · have hpt : ptI x.2.2.2.2.2.2.1 = 4 := by rw [hso]; rfl
      rw [clA_at, hpt, hes] at hclx
      rw [clA_at]
      show clA (skA P) + ptI x.2.2.2.2.2.2.1 * (zeN x.2.2.2.2.2.2.2.2.2.2 (zeI x.2.2.2.2.2.2.2.2.2.2 v2) s0 v2).length + clA (skA Q) + 4 * m ≤ _
      rw [hpt, hrk, insL_len, hes]
      show clA (skA P) + 4 * (0 + 1) + _ + 4 * m ≤ _
      have hclx : clA (skA P) + 4 * 0 + clA (skA Q) ≤ clA (skA ks) := hclx
      omega
    · show mkK _ (_, _, _, _, _, zeA _ _ _ _ (zeN x.2.2.2.2.2.2.2.2.2.2 _ _ _) _) = mkK x (_, _, _, _, _, zeA _ _ _ _ _ (_ :: _ :: _))
      rw [g7]; rfl
theorem kx_addPairs1 (ty : kTY σ) {P Q : List KC} {y : KC} (w : KWd σ0 B σ ws nm (P ++ y :: Q)) (hr : RSD (P ++ y :: Q)) (hB : BOK B ws) {k : Nat} {v : List Int32} (hk : nm[k]? = some v) (q3 : kyI (skA (P ++ y :: Q)) v = some P.length) (f1 : y.2.2.2.2.2.1 = v) (hso : y.2.2.2.2.2.2.1 = 4) (hZ : ZP y.2.2.2.2.2.2.2.2.2.2) (a b c d1 e : Bool) (h75 : σ.1 75 3 = enF a b c d1 e false) {p m : Nat} (h754 : σ.1 75 4 = nI p) (hpm : p + 2 * m = ws.length) (hok : zOK (ws.drop p)) (hcl : 3 * (clA (skA (P ++ y :: Q)) + 2 * ws.length) ≤ 49000) (x1 : Int32) (e1 : x1 = nI k) :
    kjY kPP (kQQ Y) (d + 6) 239 0 (mjL0 9 [.ref 75, .int x1, .ref y.1]) [] σ (cdP σ0 B σ ws nm (P ++ y :: Q) (zdF (bI a) (bI b) (bI c) (bI d1) 0 (skA (P ++ y :: Q)) v (ws.drop p))) := by
  obtain ⟨g, M, -, -, ⟨h4, h1024⟩, -⟩ := w.2.2.2.1
  have hs0 : ¬ y.2.2.2.2.2.2.1 = 0 := by rw [hso]; decide
  obtain ⟨r1, r2⟩ := hr.two
  have kv := (w.sz hs0).2.2
  have hzd : zdF (bI a) (bI b) (bI c) (bI d1) 0 (skA (P ++ y :: Q)) v (ws.drop p) = if zaN (bI a) (bI b) (bI c) (bI d1) 0 v (skA (P ++ y :: Q)) (some P.length) (ws.drop p) = 0 then none else some (zaA (bI a) (bI b) (bI c) (bI d1) 0 v (skA (P ++ y :: Q)) (some P.length) (ws.drop p)) := by
    unfold zdF; rw [q3, if_neg (zaB_0 _ _ _ _)]
  obtain ⟨m3, m4⟩ := zaA_k (nx := bI a) (xx := bI b) (gt := bI c) (lt := bI d1) (w := v) (P := P) (Q := Q) _ (ws.drop p) y (Nat.le_refl _) r2.1 q3
  rw [m3, m4] at hzd
  have hC9 := zeC_le (nx := bI a) (xx := bI b) (gt := bI c) (lt := bI d1) _ (ws.drop p) y.2.2.2.2.2.2.2.2.2.2 (Nat.le_refl _)
  rw [List.length_drop] at hC9
  refine kjZ_y rfl rfl 9 _ _ _ _ ty ?_
  refine (And.intro (Nat.le_of_ble_eq_true rfl) (And.intro (Nat.le_of_ble_eq_true rfl) (And.intro (Nat.le_of_ble_eq_true rfl) (And.intro (ty.k (by decide) rfl) (And.intro (Nat.le_of_ble_eq_true rfl) ?_)))))
  refine k_zad1_l (σ := σ) (d := d) (nm := nm) _ hB (P := P) (Q := Q) (C := clA (skA (P ++ y :: Q)) + 2 * ws.length) hcl a b c d1 e x1 y.1 (mkK y (esF (fun es => zeA (bI a) (bI b) (bI c) (bI d1) es (ws.drop p)) y.2.2.2.2.2)) (zeC (bI a) (bI b) (bI c) (bI d1) y.2.2.2.2.2.2.2.2.2.2 (ws.drop p)) (fun u nm' ca cb x4 x5 x6 l7 l8 hN e4 e5 tu hp wu su => ?_) m p 0 0 _ _ _ _ _ nm y σ hpm h754 rfl rfl (by omega) hok ty PRE.rf w SCl.rf h75 hso r2.1 hZ rfl (by omega) rfl
  have kvu : (u.2.2.2.1 y.1).1 = 11 := (wu.sz (x := mkK y (esF (fun es => zeA (bI a) (bI b) (bI c) (bI d1) es (ws.drop p)) y.2.2.2.2.2)) hs0).2.2
  by_cases cN : zeC (bI a) (bI b) (bI c) (bI d1) y.2.2.2.2.2.2.2.2.2.2 (ws.drop p) = 0
  · rw [if_pos cN] at hzd
    have ey : mkK y (esF (fun es => zeA (bI a) (bI b) (bI c) (bI d1) es (ws.drop p)) y.2.2.2.2.2) = y := by
      show mkK y (_, _, _, _, _, zeA _ _ _ _ _ _) = _
      rw [zeC_0 _ _ _ (Nat.le_refl _) cN]; exact mkK_self r2.1
    rw [ey] at wu
    refine kjZ_y rfl rfl 4 _ _ _ _ tu ?_
    refine And.intro (fun c5 => ?_) (fun c5 => ?_)
    rotate_left
    · refine absurd (show x4 + x5 ≤ nI 0 from ?_) c5
      rw [e4, e5, nI_add, nle (by omega) (by decide), hN, cN]; exact Nat.le_refl _
    exact k_z103 u nm' _ (.ref y.1) (.ref y.1) x1 x4 x5 x6 l7 l8 tu wu (fun z2 w2 s2 => cd_no hp w2 hr ((su.sub scHB).tr s2.h) hzd)
  · rw [if_neg cN] at hzd
    have hne : zeA (bI a) (bI b) (bI c) (bI d1) y.2.2.2.2.2.2.2.2.2.2 (ws.drop p) ≠ [] := zeA_ne _ _ _ (Nat.le_refl _) (Or.inr cN)
    refine kjZ_y rfl rfl 4 _ _ _ _ tu ?_
    refine And.intro (fun c5 => ?_) (fun c5 => ?_)
    · refine absurd (show x4 + x5 ≤ nI 0 from c5) ?_
      rw [e4, e5, nI_add, nle (by omega) (by decide), hN]; omega
    refine kjZ_y rfl rfl 5 _ _ _ _ tu ?_
    refine (And.intro (tu.k (by decide) rfl) (And.intro (Nat.le_of_ble_eq_true rfl) (And.intro (Or.inl ⟨(Nat.le_of_ble_eq_true rfl), (tu.k (by decide) rfl)⟩) (And.intro (Nat.le_of_ble_eq_true rfl) (And.intro (Nat.le_of_ble_eq_true rfl) (kjY_mono tu (fun q_ u6 ty6 xu6 h_ => ?_) (kx_settle (x := mkK y (esF (fun es => zeA (bI a) (bI b) (bI c) (bI d1) es (ws.drop p)) y.2.2.2.2.2)) tu wu (k := k) (by show nm'[k]? = some y.2.2.2.2.2.1; rw [f1]; exact hp.get hk) _ e1)))))))
    obtain ⟨q9, q9b⟩ := h_
    intro _ _
    obtain ⟨rfl, nmA, ksA, pA5, wA, rA, eA, cA, sA5⟩ := cd_se (σ := σ) (nm := nm) hp (su.sub (fun q hq => scHB q (scGH q hq))) ⟨q9, q9b⟩ (wkO_mk _ _) r1 (A := skA (P ++ mkK y (esF (fun es => zeA (bI a) (bI b) (bI c) (bI d1) es (ws.drop p)) y.2.2.2.2.2) :: Q)) (fun z => absurd z.2 hne) (fun _ => rfl)
    exact k_z103 u6 _ _ (.ref y.1) (.ref y.1) x1 x4 x5 x6 l7 l8 ty6 wA (fun z2 wz sz => cd_ok pA5 wz rA eA ((sz (59, 18) (by decide)).1.trans cA) (sA5.tr sz.g) hzd)
end KZADD2
