/-! Members: places, a member comes, a field is set, one goes. -/
theorem skI_lt (v : List Int32) : ∀ (es : List AE) (i : Nat) (z : AE), i < skI v es → es[i]? = some z → cmpW z.1 v < 0 := by
  intro es
  induction es with
  | nil => intro i z h; exact absurd h (Nat.not_lt_zero _)
  | cons a r ih =>
    intro i z h hz
    by_cases c : cmpW a.1 v < 0
    · have e : skI v (a :: r) = skI v r + 1 := if_pos c
      rw [e] at h
      cases i with
      | zero => cases hz; exact c
      | succ i => exact ih i z (by omega) hz
    · have e : skI v (a :: r) = 0 := if_neg c
      rw [e] at h; omega
theorem skI_le (v : List Int32) : ∀ es : List AE, skI v es ≤ es.length := by
  intro es
  induction es with
  | nil => exact Nat.le_refl _
  | cons a r ih =>
    by_cases c : cmpW a.1 v < 0
    · have e : skI v (a :: r) = skI v r + 1 := if_pos c
      rw [e, List.length_cons]; omega
    · have e : skI v (a :: r) = 0 := if_neg c
      rw [e]; exact Nat.zero_le _
theorem skI_ge (v : List Int32) : ∀ (es : List AE), SP es → ∀ (i : Nat) (z : AE), skI v es ≤ i → es[i]? = some z → ¬ cmpW z.1 v < 0 := by
  intro es
  induction es with
  | nil => intro _ i z _ hz; cases hz
  | cons a r ih =>
    intro hp i z h hz
    obtain ⟨p1, p2⟩ := List.pairwise_cons.mp hp
    by_cases c : cmpW a.1 v < 0
    · have e : skI v (a :: r) = skI v r + 1 := if_pos c
      rw [e] at h
      cases i with
      | zero => omega
      | succ i => exact ih p2 i z (by omega) hz
    · cases i with
      | zero => cases hz; exact c
      | succ i =>
        have hm := p1 z (List.mem_of_getElem? hz)
        exact fun q => c (cmpW_trans _ _ _ hm q)
theorem SP_N {es : List AE} (h : SP es) : SRN (es.map (fun z => z.1)) := by
  intro i j hij hj
  rw [List.length_map] at hj
  have e : ∀ k (hk : k < es.length), (es.map (fun z => z.1)).getD k [] = (es[k]).1 := fun k hk => by
    rw [List.getD_eq_getElem?_getD, List.getElem?_map, List.getElem?_eq_getElem hk]; rfl
  rw [e i (by omega), e j hj]
  exact List.pairwise_iff_getElem.mp h i j (by omega) hj hij
theorem sk_pl {es : List AE} (h : SP es) (v : List Int32) : plF (es.map (fun z => z.1)) v = skI v es := by
  have e : ∀ k (hk : k < es.length), (es.map (fun z => z.1)).getD k [] = (es[k]).1 := fun k hk => by
    rw [List.getD_eq_getElem?_getD, List.getElem?_map, List.getElem?_eq_getElem hk]; rfl
  have hl := skI_le v es
  refine plF_uniq (SP_N h) v _ (by rw [List.length_map]; exact hl) (fun i hi => ?_) (fun i h1 h2 => ?_)
  · rw [e i (by omega)]; exact skI_lt v es i _ hi (List.getElem?_eq_getElem (by omega))
  · rw [List.length_map] at h2
    rw [e i h2]; exact skI_ge v es h i _ h1 (List.getElem?_eq_getElem h2)
/-- a place, or where it would be -/
def skR (v : List Int32) (es : List AE) : Int32 := if skT v es = true then nI (skI v es) else -1 - nI (skI v es)
theorem fd_sk {es : List AE} (h : SP es) (v : List Int32) : fdR (es.map (fun z => z.1)) v = skR v es := by
  unfold fdR skR skT
  rw [sk_pl h, List.getElem?_map]
  cases e : es[skI v es]? with
  | none => rfl
  | some z =>
    show (if cmpW z.1 v = 0 then _ else _) = if decide (cmpW z.1 v = 0) = true then _ else _
    by_cases c : cmpW z.1 v = 0
    · rw [if_pos c, if_pos (decide_eq_true c)]
    · rw [if_neg c, if_neg (by rw [decide_eq_false c]; exact Bool.false_ne_true)]
theorem skR_lt {v : List Int32} {es : List AE} (hl : es.length < 2 ^ 29) : (skR v es < 0 ↔ ¬ skT v es = true) ∧ (¬ skT v es = true → Int32.ofInt (-1) - skR v es = nI (skI v es)) := by
  have hs := skI_le v es
  unfold skR
  by_cases c : skT v es = true
  · rw [if_pos c]
    exact ⟨⟨fun z => absurd z (nI_n0 (by omega)), fun z => absurd c z⟩, fun z => absurd c z⟩
  · rw [if_neg c]
    refine ⟨⟨fun _ => c, fun _ => ?_⟩, fun _ => ?_⟩
    · rw [Int32.lt_iff_toInt_lt, Int32.toInt_sub, nI_toInt (by omega), show ((-1 : Int32)).toInt = -1 by decide]
      rw [Int.bmod_eq_of_le (by omega) (by omega)]; show _ < (0 : Int); omega
    · have : ∀ a b : Int32, a - (a - b) = b := fun a b => by
        rw [Int32.sub_eq_add_neg, Int32.neg_sub, Int32.sub_eq_add_neg, ← Int32.add_assoc, Int32.add_comm a b, Int32.add_assoc, ← Int32.sub_eq_add_neg a a, Int32.sub_self, Int32.add_zero]
      exact this _ _
theorem skT_at {v : List Int32} {es : List AE} (h : skT v es = true) : ∃ z, es[skI v es]? = some z ∧ cmpW z.1 v = 0 ∧ skI v es < es.length := by
  obtain ⟨z, h1, h2⟩ := skT_iff.mp h
  exact ⟨z, h1, h2, (List.getElem?_eq_some_iff.mp h1).1⟩
theorem ptE_no {v : List Int32} {es : List AE} (h : ¬ skT v es = true) : ptE v es = insL es (skI v es) (v, [], 0) := if_neg h
theorem hpE_no {f v : List Int32} {es : List AE} (h : ¬ skT f es = true) : hpE f v es = insL es (skI f es) (f, v, 0) := by
  unfold hpE
  rw [ptE_no h]
  unfold insL
  have e : skI f es = (es.take (skI f es)).length := by rw [List.length_take, Nat.min_eq_left (skI_le f es)]
  conv => lhs; arg 1; rw [e]
  rw [gvE_at]
theorem hpE_yes {f v : List Int32} {es : List AE} (h : skT f es = true) : hpE f v es = gvE (skI f es) v es := by
  unfold hpE ptE; rw [if_pos h]
theorem rmE_cut (i : Nat) : ∀ es : List AE, rmE i es = cutL es i 1 := by
  induction i with
  | zero => intro es; cases es <;> rfl
  | succ i ih =>
    intro es
    cases es with
    | nil => rfl
    | cons z r =>
      show z :: rmE i r = _
      rw [ih]
      unfold cutL
      rw [show i + 1 + 1 = (i + 1) + 1 from rfl, List.take_succ_cons, List.drop_succ_cons]; rfl
theorem gvE_set {v : List Int32} : ∀ (i : Nat) (es : List AE) (z : AE), es[i]? = some z → gvE i v es = es.set i (z.1, v, z.2.2) := by
  intro i
  induction i with
  | zero =>
    intro es z h
    cases es with
    | nil => cases h
    | cons a r => cases h; rfl
  | succ i ih =>
    intro es z h
    cases es with
    | nil => cases h
    | cons a r => show a :: gvE i v r = a :: r.set i _; rw [ih r z h]
theorem ewS_cut1 (s : Int32) : ∀ (i : Nat) (es : List AE) (z : AE), es[i]? = some z → ewS s es = ewS s (cutL es i 1) + ewt s z := by
  intro i
  induction i with
  | zero =>
    intro es z h
    cases es with
    | nil => cases h
    | cons a r => cases h; show ewt s z + ewS s r = ewS s r + ewt s z; omega
  | succ i ih =>
    intro es z h
    cases es with
    | nil => cases h
    | cons a r =>
      have := ih r z h
      show ewt s a + ewS s r = ewS s (cutL (a :: r) (i + 1) 1) + ewt s z
      have e : cutL (a :: r) (i + 1) 1 = a :: cutL r i 1 := rfl
      rw [e]; show _ = ewt s a + ewS s (cutL r i 1) + ewt s z; omega
theorem ewS_set1 (s : Int32) : ∀ (i : Nat) (es : List AE) (z y : AE), es[i]? = some z → ewS s (es.set i y) + ewt s z = ewS s es + ewt s y := by
  intro i
  induction i with
  | zero =>
    intro es z y h
    cases es with
    | nil => cases h
    | cons a r => cases h; show ewt s y + ewS s r + ewt s z = ewt s z + ewS s r + ewt s y; omega
  | succ i ih =>
    intro es z y h
    cases es with
    | nil => cases h
    | cons a r =>
      have := ih r z y h
      show ewt s a + ewS s (r.set i y) + ewt s z = ewt s a + ewS s r + ewt s y; omega
section KMEM
variable {Y : Nat → MethodName × ByteArray} {d : Nat} {σ0 σ u : kS} {B ws nm nm' : List (List Int32)} {ks : List KC}
/-- where a member stands -/
theorem kx_plM (ty : kTY σ) {P Q : List KC} {x : KC} (w : KWd σ0 B σ ws nm (P ++ x :: Q)) (hs : x.2.2.2.2.2.2.1 = 2 ∨ x.2.2.2.2.2.2.1 = 3) (hSP : SP x.2.2.2.2.2.2.2.2.2.2) {kw : Nat} {v : List Int32} (hk : nm[kw]? = some v) (x2 : Int32) (e2 : x2 = nI kw) : kjY kPP (kQQ Y) (d + 2) 145 0 (mjL0 7 [.ref 59, .ref x.1, .int x2]) [] σ (fun p u => u = σ ∧ p = some (.int (skR v x.2.2.2.2.2.2.2.2.2.2))) := by
  obtain ⟨fr, vs, k0, n0, e0, t0, cs0, hR, hV, a1, hav, hd, ht, s6, hn6, s4⟩ := w.op_
  obtain ⟨b1, b2, b3, b4, b5, b6⟩ := hav
  have b1 : x.2.2.2.2.2.2.1 = nI k0 := b1
  have b2 : k0 ≤ 4 := b2
  have hk0 : k0 = 2 ∨ k0 = 3 := by
    rcases hs with z | z
    · exact Or.inl ((nI_eq (a := 2) (by decide) (by omega)).mp (z.symm.trans b1)).symm
    · exact Or.inr ((nI_eq (a := 3) (by decide) (by omega)).mp (z.symm.trans b1)).symm
  have hk00 : ¬ k0 = 0 := by omega
  have b5 : n0 = if k0 = 0 then x.2.2.2.2.2.2.2.2.2.1.length else x.2.2.2.2.2.2.2.2.2.2.length := b5
  rw [if_neg hk00] at b5
  obtain ⟨q, hq, hid⟩ : ∃ q, cs0[0]? = some q ∧ IDL nm q (x.2.2.2.2.2.2.2.2.2.2.map (fun z => z.1)) := by
    rcases hk0 with z | z
    · obtain ⟨q0, q1, h1, h2, h3⟩ := b6.2.2.1 z
      have h1 : cs0 = [q0, q1] := h1
      exact ⟨q0, by rw [h1]; rfl, h2⟩
    · obtain ⟨q0, h1, h2⟩ := b6.2.1 (Or.inr z)
      have h1 : cs0 = [q0] := h1
      exact ⟨q0, by rw [h1]; rfl, h2⟩
  refine kjY_mono ty (fun r u _ _ h => ?_) (kx_placeOf ty w.2.2.1.1 hR a1 hk00 hq hid (SP_N hSP) (by rw [List.length_map]; exact b5.symm) hk x2 e2)
  exact ⟨h.1, by rw [h.2, fd_sk hSP]⟩
/-- a member comes, if it is not there -/
def amP (σ0 : kS) (B : List (List Int32)) (σ : kS) (ws nm : List (List Int32)) (P : List KC) (x : KC) (Q : List KC) (c : Prop) (g : List AE → List AE) : kK := fun r u => (c ∧ r = some (.int 0) ∧ u = σ) ∨ ((¬ c) ∧ r = some (.int 1) ∧ KWd σ0 B u ws nm (P ++ mkK x (esF g x.2.2.2.2.2) :: Q) ∧ SCl scA σ u)
set_option maxHeartbeats 1000000 in
theorem kx_addM (ty : kTY σ) {P Q : List KC} {x : KC} (w : KWd σ0 B σ ws nm (P ++ x :: Q)) (hsort : x.2.2.2.2.2.2.1 = 3) (hwk : wkO x) (hSP : SP x.2.2.2.2.2.2.2.2.2.2) {k : Nat} {v : List Int32} (hk : nm[k]? = some v) (hcap : 2 * x.2.2.2.2.2.2.2.2.2.2.length + 1 + clA (skA (P ++ x :: Q)) ≤ 49152) (x2 : Int32) (e2 : x2 = nI k) :
    kjY kPP (kQQ Y) (d + 3) 218 0 (mjL0 4 [.ref 71, .ref x.1, .int x2]) [] σ (amP σ0 B σ ws nm P x Q (skT v x.2.2.2.2.2.2.2.2.2.2 = true) (ptE v)) := by
  obtain ⟨fr, vs, k0, n0, e0, t0, cs0, hR, hV, a1, hav, hd, ht, s6, hn6, s4⟩ := w.op_
  obtain ⟨b1, b2, b3, b4, b5, b6⟩ := hav
  have b1 : x.2.2.2.2.2.2.1 = nI k0 := b1
  have hk1 : k0 = 3 := by
    rw [hsort] at b1
    exact ((nI_eq (a := 3) (by decide) (by have : k0 ≤ 4 := b2; omega)).mp b1).symm
  subst hk1
  have ht0 := ht (by decide)
  subst ht0
  have b5 : n0 = x.2.2.2.2.2.2.2.2.2.2.length := b5
  obtain ⟨q, hq, hid⟩ := b6.2.1 (Or.inr rfl)
  have hq : cs0 = [q] := hq
  subst hq
  have b5 : n0 = x.2.2.2.2.2.2.2.2.2.2.length := b5
  have hms := STO.ms hR hV
  have hnd := hR.nd
  have kv : (σ.2.2.2.1 x.1).1 = 11 := by rw [hd]
  have hcap2 : pts 3 * (2 * n0 + 1) + clS vs ≤ 49152 := by rw [hms.2, b5]; show 1 * _ + _ ≤ _; omega
  have hsl9 := skR_lt (v := v) (es := x.2.2.2.2.2.2.2.2.2.2) (by omega)
  have hil := skI_le v x.2.2.2.2.2.2.2.2.2.2
  refine kjZ_y rfl rfl 5 _ _ _ _ ty ?_
  refine (And.intro (ty.k (by decide) rfl) (And.intro (Nat.le_of_ble_eq_true rfl) (And.intro (Or.inl ⟨(Nat.le_of_ble_eq_true rfl), (ty.k (by decide) rfl)⟩) (And.intro (Nat.le_of_ble_eq_true rfl) (And.intro (Nat.le_of_ble_eq_true rfl) (kjY_mono ty (fun q_ u0 ty0 xu0 h_ => ?_) (kx_plM ty w (Or.inr hsort) hSP hk _ e2)))))))
  obtain ⟨rfl, rfl⟩ := h_
  intro _ _
  refine kjZ_y rfl rfl 3 _ _ _ _ ty0 ?_
  refine (And.intro (Nat.le_of_ble_eq_true rfl) (And.intro (fun c => ?_) (fun c => ?_)))
  rotate_left
  · refine kjZ_y rfl rfl 2 _ _ _ _ ty0 ?_
    refine And.intro rfl (And.intro (Or.inr (Or.inl ⟨rfl, Or.inl rfl⟩)) ?_)
    exact Or.inl ⟨Decidable.byContradiction fun z => c (hsl9.1.mpr z), rfl, rfl⟩
  have hno := hsl9.1.mp c
  have ei := hsl9.2 hno
  refine kjZ_y rfl rfl 8 _ _ _ _ ty0 ?_
  refine (And.intro (ty0.k (by decide) rfl) (And.intro (by assumption) (And.intro (Nat.le_of_ble_eq_true rfl) (And.intro (Or.inl ⟨(Nat.le_of_ble_eq_true rfl), (ty0.k (by decide) rfl)⟩) (And.intro (Nat.le_of_ble_eq_true rfl) (And.intro (Nat.le_of_ble_eq_true rfl) (kjY_mono ty0 (fun q_ u1 ty1 xu1 h_ => ?_) (k_growCells ty0 w.2.1.1 w.2.1.2 hR a1 (by decide) (by rfl) hcap2 _ (by rw [s6]; exact nI_1 n0)))))))))
  obtain ⟨rfl, r1, ⟨ρ, r2, r3, r4⟩, o1, p1, c1⟩ := h_
  intro _ _
  have kv1 : (u1.2.2.2.1 x.1).1 = 11 := xu1.k ty0 kv (by decide)
  refine kjZ_y rfl rfl 7 _ _ _ _ ty1 ?_
  refine (And.intro (Nat.le_of_ble_eq_true rfl) (And.intro (Or.inl ⟨(Nat.le_of_ble_eq_true rfl), (by assumption)⟩) (And.intro (Nat.le_of_ble_eq_true rfl) (And.intro (Nat.le_of_ble_eq_true rfl) (kjY_mono ty1 (fun q_ u2 ty2 xu2 h_ => ?_) (k_insert1 ty1 o1 p1 r1 a1 (Or.inr rfl) (i := skI v x.2.2.2.2.2.2.2.2.2.2) (by omega) ⟨r2, r3, r4⟩ _ _ _ ei))))))
  obtain ⟨rfl, r5, o2, p2, c2⟩ := h_
  intro _ _
  have kv2 : (u2.2.2.2.1 x.1).1 = 11 := xu2.k ty1 kv1 (by decide)
  have hsl := (List.getElem?_eq_some_iff.mp a1).1
  obtain ⟨i, hi9⟩ : ∃ i, i = skI v x.2.2.2.2.2.2.2.2.2.2 := ⟨_, rfl⟩
  rw [← hi9] at r5 hil
  have a2 : (vs.set x.2.2.1 (x.1, 3, n0 + 1, x.2.2.2.1, x.2.2.2.2.1, e0, [], [insL q i x2.toInt64]))[x.2.2.1]? = some (x.1, 3, n0 + 1, x.2.2.2.1, x.2.2.2.2.1, e0, [], [insL q i x2.toInt64]) := by rw [List.getElem?_set, if_pos rfl, if_pos hsl]
  have w4 : u2.1 x.1 4 = x.2.2.2.1 := by
    obtain ⟨_, _, _, _, _, _, _, _, _, _, _, _, _, _, _, hG⟩ := r5
    obtain ⟨_, _, hV4, -⟩ := hG.v a2
    exact hV4.1.2.2.2.2.2.1
  have hw2 : WRD u2 nm := (w.k0.sto ty (Ch.tr ty (by decide) (c1.va (by decide) (by decide)) (c2.va (by decide) (by decide))) (by decide) (by decide) o2 p2).1.2.2.1.1
  refine kjZ_y rfl rfl 8 _ _ _ _ ty2 ?_
  refine (And.intro (by assumption) (And.intro (ty2.k (by decide) rfl) (And.intro (Nat.le_of_ble_eq_true rfl) (And.intro (Or.inl ⟨(Nat.le_of_ble_eq_true rfl), (ty2.k (by decide) rfl)⟩) (And.intro (Nat.le_of_ble_eq_true rfl) (And.intro (Nat.le_of_ble_eq_true rfl) (kjY_mono ty2 (fun q_ u3 ty3 xu3 h_ => ?_) (k_wlen ty2 hw2 x2))))))))
  obtain ⟨rfl, yl, rfl, ql⟩ := h_
  intro _ _
  have eyl := ql k _ e2 hk
  refine kjZ_y rfl rfl 3 _ _ _ _ ty3 ?_
  refine (And.intro (by assumption) (And.intro (Or.inl rfl) (fun ty3' => ?_)))
  have go : ∀ z x3, kTY z → z = (mjIu u3.1 x.1 4 (u3.1 x.1 4 + ((Int8.ofInt 24).toInt32 + yl)), u3.2) → kjY kPP (kQQ Y) (d + 3) 218 36 [some (.ref 71), some (.ref x.1), some (.int x2), some (.int x3)] [] z (amP σ0 B u0 ws nm P x Q (skT v x.2.2.2.2.2.2.2.2.2.2 = true) (ptE v)) := by
    intro z x3 tz ez
    refine kjZ_y rfl rfl 2 _ _ _ _ tz ?_
    refine And.intro rfl (And.intro (Or.inr (Or.inl ⟨rfl, Or.inr rfl⟩)) ?_)
    obtain ⟨m1, m2, m3, m4⟩ := r5.wgt ty3 o2 p2 a2 (u3.1 x.1 4 + ((Int8.ofInt 24).toInt32 + yl))
    rw [← ez] at m1 m2 m3 m4
    rw [List.set_set] at m1
    have hne : ¬ (3 : Int32) = 0 := by decide
    have ept : ptE v x.2.2.2.2.2.2.2.2.2.2 = insL x.2.2.2.2.2.2.2.2.2.2 i (v, [], 0) := by rw [hi9]; exact ptE_no hno
    have ewt' : u3.1 x.1 4 + ((Int8.ofInt 24).toInt32 + yl) = nI (wtC (esF (ptE v) x.2.2.2.2.2)) := by
      rw [w4, hwk, eyl, show (Int8.ofInt 24).toInt32 = nI 24 by decide, nI_add, nI_add]
      congr 1
      unfold wtC esF
      rw [hsort, if_neg hne]
      show _ = if (3 : Int32) = 0 then _ else ewS 3 (ptE v x.2.2.2.2.2.2.2.2.2.2)
      rw [if_neg hne, ept, ewS_ins]; rfl
    rw [ewt'] at m1
    obtain ⟨q1, q2⟩ := w.k0.sto ty0 (Ch.tr ty0 (by decide) (Ch.tr ty0 (by decide) (c1.va (by decide) (by decide)) (c2.va (by decide) (by decide))) (m4.va (by decide) (by decide))) (by decide) (by decide) m2 m3
    refine Or.inr ⟨hno, rfl, q1.cl hV hnd (k := 3) (n := n0 + 1) (e := e0) (t := []) (cs := [insL q i x2.toInt64]) rfl ⟨b1, b2, b3, b4, ?_, ⟨fun z => absurd z (show ¬ (3 : Nat) = 0 by decide), fun _ => ⟨_, rfl, ?_⟩, fun z => absurd z (show ¬ (3 : Nat) = 2 by decide), fun z => absurd z (show ¬ (3 : Nat) = 4 by decide)⟩⟩ rfl m1, q2⟩
    · show n0 + 1 = (ptE v x.2.2.2.2.2.2.2.2.2.2).length; rw [ept, insL_len, b5]
    · show IDL nm _ ((ptE v x.2.2.2.2.2.2.2.2.2.2).map (fun z => z.1))
      rw [ept, map_insL, e2]
      exact hid.ins hk (by rw [List.length_map]; exact hil)
  exact go _ _ ty3' rfl
end KMEM
