/-! A command's end; LPUSH and its like. -/
def rstK (x : KC) : Prop := wkO x ∧ x.2.2.2.2.1 = ctK x
def RSD (ks : List KC) : Prop := ∀ x ∈ ks, rstK x
def scG : List (Nat × Nat) := [(53, 8), (53, 13), (53, 14), (53, 15), (53, 16), (59, 16), (59, 17)]
def scH : List (Nat × Nat) := [(53, 8), (53, 13), (53, 14), (53, 15), (53, 16), (59, 16), (59, 17), (59, 18)]
theorem scGH : ∀ p ∈ scG, p ∈ scH := by decide +kernel
theorem scGE : ∀ p ∈ scG, p ∈ scE := by decide +kernel
theorem scGA : ∀ p ∈ scG, p ∈ scA := by decide +kernel
theorem scHA : ∀ p ∈ scH, p ∈ scA := by decide +kernel
theorem scHB : ∀ p ∈ scH, p ∈ scB := by decide +kernel
theorem scHC : ∀ p ∈ scH, p ∈ scC := by decide +kernel
theorem scHD : ∀ p ∈ scH, p ∈ scD := by decide +kernel
theorem SCl.h {σ u : kS} (a : SCl scA σ u) : SCl scH σ u := a.sub scHA
theorem SCl.g {σ u : kS} (a : SCl scA σ u) : SCl scG σ u := a.sub scGA
/-- what a command does: nothing, or this list; then the change is marked -/
def cdP (σ0 : kS) (B : List (List Int32)) (σ : kS) (ws nm : List (List Int32)) (ks : List KC) (o : Option (List AK)) : kK := fun r u => r = none ∧ ∃ nm' ks', PRE nm nm' ∧ KWd σ0 B u ws nm' ks' ∧ RSD ks' ∧ SCl scG σ u ∧ ((o = none ∧ skA ks' = skA ks ∧ u.1 59 18 = σ.1 59 18) ∨ (o = some (skA ks') ∧ u.1 59 18 = 1))
def cdS (σ0 : kS) (B : List (List Int32)) (σ : kS) (ws nm : List (List Int32)) (A : List AK) (u : kS) : Prop := ∃ nm' ks', PRE nm nm' ∧ KWd σ0 B u ws nm' ks' ∧ RSD ks' ∧ skA ks' = A ∧ u.1 59 18 = 1 ∧ SCl scG σ u
theorem psL (i : Nat) : ∀ (vs : List (List Int32)) (es : List AE), (psE i es vs).length = es.length + vs.length := by
  intro vs
  induction vs with
  | nil => intro es; rfl
  | cons v r ih =>
    intro es
    show (psE i _ r).length = _
    rw [ih]
    by_cases c : i = 38 ∨ i = 40
    · rw [if_pos c, List.length_append]; show es.length + 1 + r.length = es.length + (r.length + 1); omega
    · rw [if_neg c]; show es.length + 1 + r.length = es.length + (r.length + 1); omega
theorem clA_at (P Q : List KC) (x : KC) : clA (skA (P ++ x :: Q)) = clA (skA P) + ptI x.2.2.2.2.2.2.1 * x.2.2.2.2.2.2.2.2.2.2.length + clA (skA Q) := by
  unfold clA; rw [skA_app, skA_cons, List.map_append, List.map_cons, List.sum_append, List.sum_cons]; omega
theorem clA_app (P Q : List KC) : clA (skA (P ++ Q)) = clA (skA P) + clA (skA Q) := by
  unfold clA; rw [skA_app, List.map_append, List.sum_append]
theorem mkK_self {x : KC} (h : wkO x) : mkK x x.2.2.2.2.2 = x := by
  unfold mkK; rw [← h]
theorem wkO_mk (x : KC) (a : AK) : wkO (mkK x a) := rfl
/-- refused: the memory is full, or the sort is another one -/
def fuB (rp : Int32) (ks : List KC) (j : Nat) : Prop := rp = 0 ∧ (¬ cSum ks < 60000) ∧ ¬ (kCmd j).2.2.2.1 &&& 1 = 0
def rfZ (rp : Int32) (ks : List KC) (j : Nat) (v : List Int32) (s : Nat) : Prop := fuB rp ks j ∨ soT (skA ks) v (nI s) = false
section KCMD
variable {Y : Nat → MethodName × ByteArray} {d : Nat} {σ0 σ u : kS} {B ws nm nm' : List (List Int32)} {ks : List KC}
theorem CMD.sc {j : Nat} (h : CMD σ j) (s : SCl scH σ u) : CMD u j := ⟨(s (53, 8) (by decide)).2.2.trans h.1, h.2⟩
theorem KWd.mem (w : KWd σ0 B σ ws nm ks) : σ.1 59 14 = cSum ks := by
  obtain ⟨fr, vs, hR, hV⟩ := w.2.2.2.2.1
  obtain ⟨_, _, _, _, _, _, _, _, _, _, _, _, _, _, _, hG⟩ := hR
  exact hG.2.2.2.2.2.1
theorem rf1 (w : KWd σ0 B σ ws nm ks) {j s : Nat} {v : List Int32} (hv : ws[1]? = some v) : (fullB σ j ∨ ∃ i v, 1 ≤ i ∧ i ≤ 1 ∧ ws[i]? = some v ∧ soT (skA ks) v (nI s) = false) ↔ rfZ (σ.1 59 17) ks j v s := by
  unfold rfZ fullB fuB
  rw [w.mem]
  constructor
  · rintro (h | ⟨i, v', h1, h2, h3, h4⟩)
    · exact Or.inl h
    · have e : i = 1 := by omega
      subst e; rw [hv] at h3; cases h3; exact Or.inr h4
  · rintro (h | h)
    · exact Or.inl h
    · exact Or.inr ⟨1, v, Nat.le_refl _, Nat.le_refl _, hv, h⟩
theorem KWd.sz {P Q : List KC} {x : KC} (w : KWd σ0 B σ ws nm (P ++ x :: Q)) (h : ¬ x.2.2.2.2.2.2.1 = 0) : σ.1 x.1 6 = nI x.2.2.2.2.2.2.2.2.2.2.length ∧ x.2.2.2.2.2.2.2.2.2.2.length ≤ 131072 ∧ (σ.2.2.2.1 x.1).1 = 11 := by
  obtain ⟨fr, vs, k, n, e, t, cs, -, -, -, hav, hd, -, h6, hn, -⟩ := w.op_
  have b1 : x.2.2.2.2.2.2.1 = nI k := hav.1
  have hk : ¬ k = 0 := fun z => h (by rw [b1, z]; rfl)
  have b5 : n = if k = 0 then x.2.2.2.2.2.2.2.2.2.1.length else x.2.2.2.2.2.2.2.2.2.2.length := hav.2.2.2.2.1
  rw [if_neg hk] at b5
  rw [← b5]; exact ⟨h6, hn, by rw [hd]⟩
theorem cd_no {o : Option (List AK)} (hp : PRE nm nm') (w : KWd σ0 B u ws nm' ks) (hr : RSD ks) (s : SCl scH σ u) (ho : o = none) : cdP σ0 B σ ws nm ks o none u := ⟨rfl, nm', ks, hp, w, hr, s.sub scGH, Or.inl ⟨ho, rfl, (s (59, 18) (by decide)).1⟩⟩
theorem cd_se {u0 : kS} {P Q : List KC} {x : KC} {r : Option Value} {A : List AK} (hp : PRE nm nm') (hs : SCl scG σ u0) (h : seP σ0 B u0 ws nm' P x Q r u) (hwk : wkO x) (hr : RSD (P ++ Q)) (h1 : emB x → skA (P ++ Q) = A) (h2 : ¬ emB x → skA (P ++ x :: Q) = A) : r = none ∧ cdS σ0 B σ ws nm A u := by
  obtain ⟨hr0, s1, c1, q⟩ := h
  refine ⟨hr0, ?_⟩
  rcases q with ⟨q1, q2⟩ | ⟨q1, q2⟩
  · exact ⟨nm', _, hp, q2, hr, h1 q1, c1, hs.tr (s1.sub scGE)⟩
  · refine ⟨nm', _, hp, q2, ?_, ?_, c1, hs.tr (s1.sub scGE)⟩
    · intro y hy
      rcases List.mem_append.mp hy with z | z
      · exact hr y (List.mem_append_left _ z)
      · rcases List.mem_cons.mp z with z | z
        · rw [z]; exact ⟨hwk, rfl⟩
        · exact hr y (List.mem_append_right _ z)
    · rw [← h2 q1, skA_app, skA_app, skA_cons, skA_cons]; rfl
theorem cd_ok {ks' : List KC} {o : Option (List AK)} {A : List AK} (hp : PRE nm nm') (w : KWd σ0 B u ws nm' ks') (hr : RSD ks') (he : skA ks' = A) (c : u.1 59 18 = 1) (s : SCl scG σ u) (ho : o = some A) : cdP σ0 B σ ws nm ks o none u := ⟨rfl, nm', ks', hp, w, hr, s, Or.inr ⟨by rw [he]; exact ho, c⟩⟩
theorem RSD.two {P Q : List KC} {y : KC} (h : RSD (P ++ y :: Q)) : RSD (P ++ Q) ∧ rstK y := ⟨fun x hx => h x (by rcases List.mem_append.mp hx with z | z; exact List.mem_append_left _ z; exact List.mem_append_right _ (List.mem_cons_of_mem _ z)), h y (List.mem_append_right _ List.mem_cons_self)⟩
theorem k_push_l (K : kK) (hB : BOK B ws) {P Q : List KC} {C : Nat} (hC : 3 * C ≤ 49000) (i1 : Nat) (x1 x2 x3 : Int32) (e1 : x1 = if i1 = 38 ∨ i1 = 40 then 0 else 1) (v0 : Nat) (y0 : KC)
    (hK : ∀ u nm' x5, kTY u → PRE nm nm' → KWd σ0 B u ws nm' (P ++ y0 :: Q) → SCl scA σ u → kjY kPP (kQQ Y) (d + 6) 191 58 [some (.ref 70), some (.int x1), some (.int x2), some (.int x3), some (.ref v0), some (.int x5)] [] u K) :
    ∀ (f j : Nat) (x5 : Int32) (nm' : List (List Int32)) (x : KC) (u : kS), j + f = ws.length → x5 = nI j → kTY u → PRE nm nm' → KWd σ0 B u ws nm' (P ++ x :: Q) → SCl scA σ u → x.2.2.2.2.2.2.1 = 1 → wkO x → x.1 = v0 → clA (skA (P ++ x :: Q)) + f ≤ C → mkK x (esF (fun es => psE i1 es (ws.drop j)) x.2.2.2.2.2) = y0 →
    kjY kPP (kQQ Y) (d + 6) 191 38 [some (.ref 70), some (.int x1), some (.int x2), some (.int x3), some (.ref v0), some (.int x5)] [] u K := by
  intro f
  induction f with
  | zero =>
    intro j x5 nm' x u hj e5 tu hp wu su hso hwk hx hcl hy
    obtain ⟨g, M, -, -, ⟨h4, h1024⟩, -⟩ := wu.2.2.2.1
    obtain ⟨z1, z2, kv⟩ := wu.sz (by rw [hso]; decide)
    rw [hx] at kv
    refine kjZ_y rfl rfl 5 _ _ _ _ tu ?_
    refine (And.intro (tu.k (by decide) rfl) (And.intro (tu.k (by decide) rfl) (And.intro (fun c => ?_) (fun c => ?_))))
    rotate_left
    · refine absurd (show u.1 53 4 ≤ x5 from ?_) c
      rw [h4, e5, nle (by omega) (by omega)]; omega
    refine hK u nm' x5 tu hp ?_ su
    rw [← hy, List.drop_eq_nil_of_le (by omega)]
    show KWd σ0 B u ws nm' (P ++ mkK x x.2.2.2.2.2 :: Q)
    rw [mkK_self hwk]; exact wu
  | succ f ih =>
    intro j x5 nm' x u hj e5 tu hp wu su hso hwk hx hcl hy
    obtain ⟨g, M, -, -, ⟨h4, h1024⟩, -⟩ := wu.2.2.2.1
    obtain ⟨z1, z2, kv⟩ := wu.sz (by rw [hso]; decide)
    have hv : ws[j]? = some ws[j] := List.getElem?_eq_getElem (by omega)
    have hcl0 := clA_at P Q x
    rw [hso, show ptI 1 = 1 from rfl, Nat.one_mul] at hcl0
    subst hx
    refine kjZ_y rfl rfl 5 _ _ _ _ tu ?_
    refine (And.intro (tu.k (by decide) rfl) (And.intro (tu.k (by decide) rfl) (And.intro (fun c => ?_) (fun c => ?_))))
    · refine absurd (show u.1 53 4 ≤ x5 from c) ?_
      rw [h4, e5, nle (by omega) (by omega)]; omega
    have go : ∀ (i : Nat) (xi : Int32), i ≤ x.2.2.2.2.2.2.2.2.2.2.length → xi = nI i → insL x.2.2.2.2.2.2.2.2.2.2 i (ws[j], [], 0) = (if i1 = 38 ∨ i1 = 40 then x.2.2.2.2.2.2.2.2.2.2 ++ [(ws[j], [], 0)] else (ws[j], [], 0) :: x.2.2.2.2.2.2.2.2.2.2) → kjY kPP (kQQ Y) (d + 6) 191 51 [some (.ref 70), some (.int x1), some (.int x2), some (.int x3), some (.ref x.1), some (.int x5)] [.int xi, .ref x.1, .ref 70] u K := by
      intro i xi hi exi hin
      refine kjZ_y rfl rfl 4 _ _ _ _ tu ?_
      refine (And.intro (tu.k (by decide) rfl) (And.intro (Nat.le_of_ble_eq_true rfl) (And.intro (Or.inl ⟨(Nat.le_of_ble_eq_true rfl), (tu.k (by decide) rfl)⟩) (And.intro (Nat.le_of_ble_eq_true rfl) (And.intro (Nat.le_of_ble_eq_true rfl) (kjY_mono tu (fun q_ u1 ty1 xu1 h_ => ?_) (kx_id tu wu hB hv _ e5)))))))
      obtain ⟨k, nm2, rfl, p1, p2, w1, s1⟩ := h_
      intro _ _
      have kv1 : (u1.2.2.2.1 x.1).1 = 11 := xu1.k tu kv (by decide)
      refine kjZ_y rfl rfl 1 _ _ _ _ ty1 ?_
      refine (And.intro (Nat.le_of_ble_eq_true rfl) (And.intro (Or.inl ⟨(Nat.le_of_ble_eq_true rfl), (ty1.k (by decide) rfl)⟩) (And.intro (Nat.le_of_ble_eq_true rfl) (And.intro (Nat.le_of_ble_eq_true rfl) (kjY_mono ty1 (fun q_ u2 ty2 xu2 h_ => ?_) (kx_ladd ty1 w1 hso hwk hi p1 (by omega) _ _ exi rfl))))))
      obtain ⟨rfl, w2, s2⟩ := h_
      intro _ _
      have kv2 : (u2.2.2.2.1 x.1).1 = 11 := xu2.k ty1 kv1 (by decide)
      refine kjZ_y rfl rfl 2 _ _ _ _ ty2 ?_
      refine ih (j + 1) _ nm2 _ u2 (by omega) (by rw [e5]; exact nI_1 j) ty2 (hp.tr p2) w2 ((su.tr s1).tr s2) hso (wkO_mk _ _) rfl ?_ ?_
      · rw [clA_at]
        show clA (skA P) + ptI x.2.2.2.2.2.2.1 * (insL x.2.2.2.2.2.2.2.2.2.2 i (ws[j], [], 0)).length + clA (skA Q) + f ≤ C
        rw [hso, show ptI 1 = 1 from rfl, Nat.one_mul, insL_len]; omega
      · rw [← hy, List.drop_eq_getElem_cons (show j < ws.length by omega)]
        show mkK x (x.2.2.2.2.2.1, x.2.2.2.2.2.2.1, x.2.2.2.2.2.2.2.1, x.2.2.2.2.2.2.2.2.1, x.2.2.2.2.2.2.2.2.2.1, psE i1 (insL x.2.2.2.2.2.2.2.2.2.2 i (ws[j], [], 0)) (ws.drop (j + 1))) = _
        rw [hin]; rfl
    refine kjZ_y rfl rfl 4 _ _ _ _ tu ?_
    refine And.intro (fun c2 => ?_) (fun c2 => ?_)
    · have hi1 : i1 = 38 ∨ i1 = 40 := by
        by_cases z : i1 = 38 ∨ i1 = 40
        · exact z
        · rw [if_neg z] at e1; exact absurd (e1.symm.trans c2) (by decide)
      refine kjZ_y rfl rfl 2 _ _ _ _ tu ?_
      refine (And.intro (by assumption) ?_)
      refine go _ _ (Nat.le_refl _) z1 ?_
      rw [if_pos hi1]; unfold insL; rw [List.take_length, List.drop_length]
    · have hi1 : ¬ (i1 = 38 ∨ i1 = 40) := fun z => c2 (show x1 = 0 by rw [e1, if_pos z])
      refine kjZ_y rfl rfl 2 _ _ _ _ tu ?_
      refine go 0 _ (Nat.zero_le _) rfl ?_
      rw [if_neg hi1]; rfl
theorem kx_push (ty : kTY σ) (w : KWd σ0 B σ ws nm ks) (hr : RSD ks) (hB : BOK B ws) {j : Nat} (hj : CMD σ j) {v : List Int32} (hv : ws[1]? = some v) (h3 : 3 ≤ ws.length) (hk1 : ks.length + 1 ≤ 2600) (hcl : 3 * (clA (skA ks) + ws.length) ≤ 49000) (i1 : Nat) (x1 x2 : Int32) (e1 : x1 = if i1 = 38 ∨ i1 = 40 then 0 else 1) (e2 : x2 = if i1 = 39 ∨ i1 = 40 then 1 else 0) {o : Option (List AK)} (ho1 : rfZ (σ.1 59 17) ks j v 1 → o = none) (ho2 : ¬ rfZ (σ.1 59 17) ks j v 1 → o = puF (skA ks) v i1 (ws.drop 2)) :
    kjY kPP (kQQ Y) (d + 7) 191 0 (mjL0 6 [.ref 70, .int x1, .int x2]) [] σ (cdP σ0 B σ ws nm ks o) := by
  refine kjZ_y rfl rfl 6 _ _ _ _ ty ?_
  refine (And.intro (ty.k (by decide) rfl) (And.intro (Nat.le_of_ble_eq_true rfl) (And.intro (Or.inl ⟨(Nat.le_of_ble_eq_true rfl), (ty.k (by decide) rfl)⟩) (And.intro (Nat.le_of_ble_eq_true rfl) (And.intro (Nat.le_of_ble_eq_true rfl) (kjY_mono ty (fun q_ u1 ty1 xu1 h_ => ?_) (kx_refuses ty w hB hj (a := 1) (b := 1) (by omega) (by omega) (s := 1) (by decide) _ _ _ rfl rfl rfl)))))))
  obtain ⟨nm1, p1, w1, s1, q⟩ := h_
  intro _ _
  rw [rf1 w hv] at q
  rcases q with ⟨rfl, q⟩ | ⟨rfl, q⟩
  · refine kjZ_y rfl rfl 1 _ _ _ _ ty1 ?_
    refine And.intro (fun c => ?_) (fun c => ?_)
    · exact absurd (show (1 : Int32) = 0 from c) (by decide)
    refine kjZ_y rfl rfl 1 _ _ _ _ ty1 ?_
    refine And.intro rfl (And.intro rfl ?_)
    exact cd_no p1 w1 hr s1.h (ho1 q)
  have ho := ho2 q
  have hso := fun z => q (Or.inr z)
  refine kjZ_y rfl rfl 1 _ _ _ _ ty1 ?_
  refine And.intro (fun c => ?_) (fun c => ?_)
  rotate_left
  · exact absurd rfl c
  refine kjZ_y rfl rfl 4 _ _ _ _ ty1 ?_
  refine (And.intro (ty1.k (by decide) rfl) (And.intro (Nat.le_of_ble_eq_true rfl) (And.intro (Or.inl ⟨(Nat.le_of_ble_eq_true rfl), (ty1.k (by decide) rfl)⟩) (And.intro (Nat.le_of_ble_eq_true rfl) (And.intro (Nat.le_of_ble_eq_true rfl) (kjY_mono ty1 (fun q_ u2 ty2 xu2 h_ => ?_) (kx_id ty1 w1 hB hv _ rfl)))))))
  obtain ⟨k, nm2, rfl, p2, p3, w2, s2⟩ := h_
  intro _ _
  refine kjZ_y rfl rfl 5 _ _ _ _ ty2 ?_
  refine (And.intro (Nat.le_of_ble_eq_true rfl) (And.intro (ty2.k (by decide) rfl) (And.intro (Nat.le_of_ble_eq_true rfl) (And.intro (Or.inl ⟨(Nat.le_of_ble_eq_true rfl), (ty2.k (by decide) rfl)⟩) (And.intro (Nat.le_of_ble_eq_true rfl) (And.intro (Nat.le_of_ble_eq_true rfl) (kjY_mono ty2 (fun q_ u3 ty3 xu3 h_ => ?_) (kx_find ty2 w2 p2 _ rfl))))))))
  obtain ⟨rfl, q3⟩ := h_
  intro _ _
  have go : ∀ (u : kS) (P : List KC) (x : KC) (Q : List KC), kTY u → KWd σ0 B u ws nm2 (P ++ x :: Q) → SCl scA σ u → x.2.2.2.2.2.2.1 = 1 → wkO x → x.2.2.2.2.2.1 = v → RSD (P ++ Q) → clA (skA (P ++ x :: Q)) ≤ clA (skA ks) → o = some (skA P ++ esF (fun es => psE i1 es (ws.drop 2)) x.2.2.2.2.2 :: skA Q) → kjY kPP (kQQ Y) (d + 7) 191 38 [some (.ref 70), some (.int x1), some (.int x2), some (.int (nI k)), some (.ref x.1), some (.int (nI 2))] [] u (cdP σ0 B σ ws nm ks o) := by
    intro u P x Q tu wu su hs1 hwk hnx hrs hc hoo
    refine k_push_l (d := d + 1) (nm := nm2) (σ := σ) (C := clA (skA ks) + ws.length) _ hB hcl i1 x1 x2 _ e1 x.1 _ ?_ (ws.length - 2) 2 _ nm2 x u (by omega) rfl tu PRE.rf wu su hs1 hwk rfl (by omega) rfl
    intro u5 nm5 x5 t5 p5 w5 s5
    have kv5 : (u5.2.2.2.1 x.1).1 = 11 := (w5.sz (x := mkK x (esF (fun es => psE i1 es (ws.drop 2)) x.2.2.2.2.2)) (by show ¬ x.2.2.2.2.2.2.1 = 0; rw [hs1]; decide)).2.2
    have hkn : nm5[k]? = some v := p5.get p2
    refine kjZ_y rfl rfl 5 _ _ _ _ t5 ?_
    refine (And.intro (t5.k (by decide) rfl) (And.intro (Nat.le_of_ble_eq_true rfl) (And.intro (Or.inl ⟨(Nat.le_of_ble_eq_true rfl), (t5.k (by decide) rfl)⟩) (And.intro (Nat.le_of_ble_eq_true rfl) (And.intro (Nat.le_of_ble_eq_true rfl) (kjY_mono t5 (fun q_ u6 ty6 xu6 h_ => ?_) (kx_settle (x := mkK x (esF (fun es => psE i1 es (ws.drop 2)) x.2.2.2.2.2)) t5 w5 (k := k) (by show nm5[k]? = some x.2.2.2.2.2.1; rw [hnx]; exact hkn) _ rfl)))))))
    obtain ⟨q6, q6b⟩ := h_
    intro _ _
    have kv6 : (u6.2.2.2.1 x.1).1 = 11 := xu6.k t5 kv5 (by decide)
    have hne : ¬ emB (mkK x (esF (fun es => psE i1 es (ws.drop 2)) x.2.2.2.2.2)) := by
      intro z
      have z2 : psE i1 x.2.2.2.2.2.2.2.2.2.2 (ws.drop 2) = [] := z.2
      have z3 := psL i1 (ws.drop 2) x.2.2.2.2.2.2.2.2.2.2
      rw [z2, List.length_drop, List.length_nil] at z3; omega
    obtain ⟨rfl, nm7, ks7, p7, w7, r7, e7, c7, s7⟩ := cd_se (σ := σ) ((p1.tr p3).tr p5) s5.g ⟨q6, q6b⟩ (wkO_mk _ _) hrs (fun z => absurd z hne) (fun _ => rfl)
    obtain ⟨b, hb, eb⟩ := w7.2.2.2.2.2.2.1
    have kb := ob_k ty6 (ANn_b b (ANb_n b hb)).1
    refine kjZ_y rfl rfl 7 _ _ _ _ ty6 ?_
    refine (And.intro (ty6.k (by decide) rfl) (And.intro (ty6.k (by decide) rfl) (Exists.intro _ (And.intro eb (And.intro (by assumption) (And.intro (Nat.le_of_ble_eq_true rfl) (And.intro (Or.inl ⟨(Nat.le_of_ble_eq_true rfl), (by assumption)⟩) (And.intro (Nat.le_of_ble_eq_true rfl) (And.intro (Nat.le_of_ble_eq_true rfl) (kjY_mono ty6 (fun q_ u8 ty8 xu8 h_ => ?_) (kx_number ty6 w7 hb _)))))))))))
    obtain ⟨rfl, w8, s8⟩ := h_
    intro _ _
    refine kjZ_y rfl rfl 1 _ _ _ _ ty8 ?_
    refine And.intro rfl (And.intro rfl ?_)
    refine cd_ok p7 w8 r7 e7 ((s8 (59, 18) (by decide)).1.trans c7) (s7.tr s8.g) ?_
    rw [hoo, skA_app, skA_cons]; rfl
  have sA := s1.tr s2
  rcases q3 with ⟨rfl, q3⟩ | ⟨P, y, Q, rfl, f0, f1, f2⟩
  · refine kjZ_y rfl rfl 3 _ _ _ _ ty3 ?_
    refine (And.intro (Nat.le_of_ble_eq_true rfl) ?_)
    refine kjZ_y rfl rfl 2 _ _ _ _ ty3 ?_
    refine And.intro (fun c3 => ?_) (fun c3 => ?_)
    · have ei : ¬ (i1 = 39 ∨ i1 = 40) := fun z => by
        rw [if_pos z] at e2; exact absurd (e2.symm.trans c3) (by decide)
      refine kjZ_y rfl rfl 7 _ _ _ _ ty3 ?_
      refine (And.intro (ty3.k (by decide) rfl) (And.intro (Nat.le_of_ble_eq_true rfl) (And.intro (Or.inl ⟨(Nat.le_of_ble_eq_true rfl), (ty3.k (by decide) rfl)⟩) (And.intro (Nat.le_of_ble_eq_true rfl) (And.intro (Nat.le_of_ble_eq_true rfl) (kjY_mono ty3 (fun q_ u4 ty4 xu4 h_ => ?_) (kx_fresh ty3 w2 p2 (s := 1) (by decide) (fun _ => hk1) _ _ rfl rfl)))))))
      obtain ⟨P, x, Q, rfl, w4, s4, g1, g2, g3, g4⟩ := h_
      intro _ _
      rcases g4 with ⟨y, g5, g6, g7, g8⟩ | ⟨g5, g6, g7, g8⟩
      · rw [q3] at g7; cases g7
      refine kjZ_y rfl rfl 3 _ _ _ _ ty4 ?_
      refine (And.intro (Nat.le_of_ble_eq_true rfl) (And.intro (Nat.le_of_ble_eq_true rfl) ?_))
      refine go u4 P x Q ty4 w4 (sA.tr s4) (by rw [g2]; rfl) (by unfold wkO; rw [g1, g2]; rfl) (by rw [g2]) (by rw [← g5]; exact hr) ?_ ?_
      · rw [clA_at, g2, g5, clA_app]; show _ + 1 * 0 + _ ≤ _; omega
      · rw [ho]; unfold puF
        rw [if_neg (fun z => ei z.2)]
        unfold orA; rw [q3]
        show some (upA (inA (skA ks) (plF (anm (skA ks)) v) (v, 1, 0, 0, [], [])) (plF (anm (skA ks)) v) _) = _
        rw [← g7, g5, skA_app]
        unfold inA
        have el : P.length = (skA P).length := (skA_len P).symm
        rw [el, List.take_left, List.drop_left, upA_at, g2]; rfl
    · have ei : i1 = 39 ∨ i1 = 40 := by
        by_cases z : i1 = 39 ∨ i1 = 40
        · exact z
        · rw [if_neg z] at e2; exact absurd e2 c3
      obtain ⟨b, hb, eb⟩ := w2.2.2.2.2.2.2.1
      have kb := ob_k ty3 (ANn_b b (ANb_n b hb)).1
      refine kjZ_y rfl rfl 5 _ _ _ _ ty3 ?_
      refine (And.intro (ty3.k (by decide) rfl) (And.intro (ty3.k (by decide) rfl) (Exists.intro _ (And.intro eb (And.intro (Nat.le_of_ble_eq_true rfl) (And.intro (Or.inl ⟨(Nat.le_of_ble_eq_true rfl), (by assumption)⟩) (And.intro (Nat.le_of_ble_eq_true rfl) (And.intro (Nat.le_of_ble_eq_true rfl) (kjY_mono ty3 (fun q_ u4 ty4 xu4 h_ => ?_) (kx_number ty3 w2 hb _))))))))))
      obtain ⟨rfl, w4, s4⟩ := h_
      intro _ _
      refine kjZ_y rfl rfl 1 _ _ _ _ ty4 ?_
      refine And.intro rfl (And.intro rfl ?_)
      refine cd_no (p1.tr p3) w4 hr (sA.tr s4).h ?_
      rw [ho]; unfold puF; rw [if_pos ⟨q3, ei⟩]
  · subst f0
    have hs1 : y.2.2.2.2.2.2.1 = 1 := by
      have z := soT_k (s := nI 1) f2
      by_cases c4 : y.2.2.2.2.2.2.1 = nI 1
      · exact c4
      · rw [decide_eq_false c4] at z; exact absurd z hso
    obtain ⟨r1, r2⟩ := hr.two
    have kv : (u3.2.2.2.1 y.1).1 = 11 := (w2.sz (by rw [hs1]; decide)).2.2
    refine kjZ_y rfl rfl 7 _ _ _ _ ty3 ?_
    refine (And.intro (Nat.le_of_ble_eq_true rfl) (And.intro (Nat.le_of_ble_eq_true rfl) ?_))
    refine go u3 P y Q ty3 w2 sA hs1 r2.1 f1 r1 (Nat.le_refl _) ?_
    rw [ho]; unfold puF
    rw [if_neg (fun z => by rw [f2] at z; exact absurd z.1 (by intro z; cases z))]
    unfold orA; rw [f2]
    show some (upA (skA (P ++ y :: Q)) P.length _) = _
    rw [skA_app, skA_cons, ← skA_len P, upA_at]
end KCMD
