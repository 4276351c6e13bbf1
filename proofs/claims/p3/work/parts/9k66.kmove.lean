/-! LMOVE, RPOPLPUSH. -/
theorem cutL_l {α : Type} (es : List α) : cutL es (es.length - 1) 1 = es.dropLast := by
  unfold cutL
  rw [List.drop_eq_nil_of_le (by omega), List.append_nil, List.dropLast_eq_take]
theorem cutL_f {α : Type} (es : List α) : cutL es 0 1 = es.tail := by
  unfold cutL; rw [List.take_zero, List.nil_append, Nat.zero_add, List.drop_one]
theorem insL_l {α : Type} (es : List α) (x : α) : insL es es.length x = es ++ [x] := by
  unfold insL; rw [List.take_length, List.drop_length]
theorem insL_f {α : Type} (es : List α) (x : α) : insL es 0 x = x :: es := rfl
theorem laW_at (es : List AE) (h : es ≠ []) : ∃ z, es[es.length - 1]? = some z ∧ z.1 = laW es := by
  rcases List.eq_nil_or_concat es with e | ⟨L, z, e⟩
  · exact absurd e h
  · rw [List.concat_eq_append] at e
    subst e
    refine ⟨z, ?_, ?_⟩
    · rw [List.length_append, List.getElem?_append_right (by simp)]
      simp
    · unfold laW; rw [List.reverse_append]; rfl
theorem hdW_at (es : List AE) (h : es ≠ []) : ∃ z, es[0]? = some z ∧ z.1 = hdW es := by
  cases es with
  | nil => exact absurd rfl h
  | cons a r => exact ⟨a, rfl, rfl⟩
def adE (tl : Int32) (v : List Int32) (es : List AE) : List AE := if tl = 0 then es ++ [(v, [], 0)] else (v, [], 0) :: es
def drE (fl : Int32) (es : List AE) : List AE := if fl = 0 then es.dropLast else es.tail
def piW (fl : Int32) (es : List AE) : List Int32 := if fl = 0 then laW es else hdW es
theorem adE_ne (tl : Int32) (v : List Int32) (es : List AE) : ¬ adE tl v es = [] := by
  unfold adE
  by_cases c : tl = 0
  · rw [if_pos c]; exact fun z => by cases (List.append_eq_nil_iff.mp z).2
  · rw [if_neg c]; exact fun z => by cases z
theorem ky_at {R S : List AK} {a : AK} (hs : SRT (R ++ a :: S)) : kyI (R ++ a :: S) a.1 = some R.length := by
  have hp := SRT_P.mp hs
  obtain ⟨p1, p2, p3⟩ := List.pairwise_append.mp hp
  obtain ⟨p4, p5⟩ := List.pairwise_cons.mp p2
  rcases or_split hs a.1 0 (fun x hx => p3 x hx a List.mem_cons_self) (fun x hx => by
    rcases List.mem_cons.mp hx with h | h
    · rw [h, cmpW_self]; decide
    · have := p4 x h; rw [cmpW_anti x.1 a.1] at this; omega) with h | h
  · exact h.2.1
  · exact absurd (cmpW_self a.1) h.1
theorem ky_k {P Q : List KC} {x : KC} (hs : SRT (skA (P ++ x :: Q))) : kyI (skA (P ++ x :: Q)) x.2.2.2.2.2.1 = some P.length := by
  rw [skA_app, skA_cons] at hs ⊢
  rw [ky_at hs, skA_len]
section KMOVE
variable {Y : Nat → MethodName × ByteArray} {d : Nat} {σ0 σ u : kS} {B ws nm nm' : List (List Int32)} {ks : List KC}
theorem KWd.srt (w : KWd σ0 B σ ws nm ks) : SRT (skA ks) := by
  obtain ⟨fr, vs, hR, hV⟩ := w.2.2.2.2.1
  exact hV.2.2
theorem KWd.nme (w : KWd σ0 B σ ws nm ks) {x : KC} (hx : x ∈ ks) : nm[x.2.1]? = some x.2.2.2.2.2.1 := by
  obtain ⟨fr, vs, hR, hV⟩ := w.2.2.2.2.1
  obtain ⟨r, a1, a2, a3, a4, a5, a6⟩ := hV.1 x hx
  exact a6
theorem kx_mv121 (ty : kTY σ) {P Q : List KC} {x : KC} (w : KWd σ0 B σ ws nm (P ++ x :: Q)) (hs : x.2.2.2.2.2.2.1 = 1) (hwk : wkO x) (hr : RSD (P ++ Q)) {k k8 : Nat} {v : List Int32} (hk : nm[k]? = some x.2.2.2.2.2.1) (hk8 : nm[k8]? = some v) (hcap : 2 * x.2.2.2.2.2.2.2.2.2.2.length + 1 + clA (skA (P ++ x :: Q)) ≤ 49152) (l6 : Nat) (x1 x2 x3 x4 x5 x7 x8 : Int32) (e5 : x5 = nI k) (e8 : x8 = nI k8) :
    kjY kPP (kQQ Y) (d + 7) 200 121 [some (.ref 70), some (.int x1), some (.int x2), some (.int x3), some (.int x4), some (.int x5), some (.ref l6), some (.int x7), some (.int x8), some (.ref x.1)] [] σ (fun r z => r = none ∧ cdS σ0 B σ ws nm (skA (P ++ mkK x (esF (adE x3 v) x.2.2.2.2.2) :: Q)) z) := by
  obtain ⟨z1, z2, kv⟩ := w.sz (by rw [hs]; decide)
  have go : ∀ i xi, i ≤ x.2.2.2.2.2.2.2.2.2.2.length → xi = nI i → insL x.2.2.2.2.2.2.2.2.2.2 i (v, [], 0) = adE x3 v x.2.2.2.2.2.2.2.2.2.2 → kjY kPP (kQQ Y) (d + 7) 200 129 [some (.ref 70), some (.int x1), some (.int x2), some (.int x3), some (.int x4), some (.int x5), some (.ref l6), some (.int x7), some (.int x8), some (.ref x.1)] [.int xi, .ref x.1, .ref 70] σ (fun r z => r = none ∧ cdS σ0 B σ ws nm (skA (P ++ mkK x (esF (adE x3 v) x.2.2.2.2.2) :: Q)) z) := by
    intro i xi hi ei eI
    refine kjZ_y rfl rfl 2 _ _ _ _ ty ?_
    refine (And.intro (Nat.le_of_ble_eq_true rfl) (And.intro (Or.inl ⟨(Nat.le_of_ble_eq_true rfl), (ty.k (by decide) rfl)⟩) (And.intro (Nat.le_of_ble_eq_true rfl) (And.intro (Nat.le_of_ble_eq_true rfl) (kjY_mono ty (fun q_ u1 ty1 xu1 h_ => ?_) (kx_ladd ty w hs hwk hi hk8 hcap _ _ ei e8))))))
    obtain ⟨rfl, w1, s1⟩ := h_
    intro _ _
    have ek : mkK x (esF (fun es => insL es i (v, [], 0)) x.2.2.2.2.2) = mkK x (esF (adE x3 v) x.2.2.2.2.2) := by
      show mkK x (_, _, _, _, _, insL _ _ _) = mkK x (_, _, _, _, _, adE _ _ _); rw [eI]
    rw [ek] at w1
    have kv1 : (u1.2.2.2.1 x.1).1 = 11 := xu1.k ty kv (by decide)
    refine kjZ_y rfl rfl 5 _ _ _ _ ty1 ?_
    refine (And.intro (ty1.k (by decide) rfl) (And.intro (Nat.le_of_ble_eq_true rfl) (And.intro (Or.inl ⟨(Nat.le_of_ble_eq_true rfl), (ty1.k (by decide) rfl)⟩) (And.intro (Nat.le_of_ble_eq_true rfl) (And.intro (Nat.le_of_ble_eq_true rfl) (kjY_mono ty1 (fun q_ u5 ty5 xu5 h_ => ?_) (kx_settle (x := mkK x (esF (adE x3 v) x.2.2.2.2.2)) ty1 w1 (k := k) hk _ e5)))))))
    obtain ⟨q9, q9b⟩ := h_
    intro _ _
    obtain ⟨rfl, hz⟩ := cd_se (σ := σ) PRE.rf s1.g ⟨q9, q9b⟩ (wkO_mk _ _) hr (fun z => absurd z.2 (adE_ne _ _ _)) (fun _ => rfl)
    refine kjZ_y rfl rfl 1 _ _ _ _ ty5 ?_
    refine And.intro rfl (And.intro rfl ?_)
    exact ⟨rfl, hz⟩
  refine kjZ_y rfl rfl 4 _ _ _ _ ty ?_
  refine And.intro (fun c => ?_) (fun c => ?_)
  · have c : x3 = 0 := c
    refine kjZ_y rfl rfl 2 _ _ _ _ ty ?_
    refine (And.intro (by assumption) ?_)
    refine go x.2.2.2.2.2.2.2.2.2.2.length _ (Nat.le_refl _) z1 ?_
    unfold adE; rw [if_pos c, insL_l]
  · have c : ¬ x3 = 0 := c
    refine kjZ_y rfl rfl 2 _ _ _ _ ty ?_
    refine go 0 _ (Nat.zero_le _) rfl ?_
    unfold adE; rw [if_neg c, insL_f]
theorem len_clA {P Q : List KC} {x : KC} (h : ¬ x.2.2.2.2.2.2.1 = 0) : x.2.2.2.2.2.2.2.2.2.2.length ≤ clA (skA (P ++ x :: Q)) ∨ ptI x.2.2.2.2.2.2.1 = 0 := by
  rw [clA_at]
  by_cases c : ptI x.2.2.2.2.2.2.1 = 0
  · exact Or.inr c
  · left
    have : 1 * x.2.2.2.2.2.2.2.2.2.2.length ≤ ptI x.2.2.2.2.2.2.1 * x.2.2.2.2.2.2.2.2.2.2.length := Nat.mul_le_mul_right _ (by omega)
    omega
theorem drE_len (fl : Int32) (es : List AE) : (drE fl es).length = es.length - 1 := by
  unfold drE
  by_cases c : fl = 0
  · rw [if_pos c, List.length_dropLast]
  · rw [if_neg c, List.length_tail]
theorem mvF_k {P Q : List KC} {y : KC} {w1 w2 : List Int32} {fl tl : Int32} (f2 : kyI (skA (P ++ y :: Q)) w1 = some P.length) : mvF (skA (P ++ y :: Q)) w1 w2 fl tl = some (stl1 (upA (orA (skA (P ++ mkK y (esF (drE fl) y.2.2.2.2.2) :: Q)) w2 1).1 (orA (skA (P ++ mkK y (esF (drE fl) y.2.2.2.2.2) :: Q)) w2 1).2 (esF (adE tl (piW fl y.2.2.2.2.2.2.2.2.2.2))))
        (if kyI (skA (P ++ mkK y (esF (drE fl) y.2.2.2.2.2) :: Q)) w2 = none ∧ (orA (skA (P ++ mkK y (esF (drE fl) y.2.2.2.2.2) :: Q)) w2 1).2 ≤ P.length then P.length + 1 else P.length)) := by
  have e : skA (P ++ mkK y (esF (drE fl) y.2.2.2.2.2) :: Q) = upA (skA (P ++ y :: Q)) P.length (esF (drE fl)) := by
    rw [skA_app, skA_app, skA_cons, skA_cons, ← skA_len P, upA_at]; rfl
  unfold mvF
  rw [f2]
  show (match (skA (P ++ y :: Q))[P.length]? with | none => _ | some a => _) = _
  rw [skA_at, e]; rfl
/-- from the word's taking on -/
theorem kx_mv97 (ty : kTY σ) {P Q : List KC} {y : KC} (w : KWd σ0 B σ ws nm (P ++ y :: Q)) (hr : RSD (P ++ y :: Q)) (hs : y.2.2.2.2.2.2.1 = 1) {k k2 k8 i : Nat} {w1 w2 : List Int32} (hk : nm[k]? = some w1) (hk2 : nm[k2]? = some w2) (f1 : y.2.2.2.2.2.1 = w1) (f2 : kyI (skA (P ++ y :: Q)) w1 = some P.length) (hso2 : ¬ soT (skA (P ++ y :: Q)) w2 (nI 1) = false) (fl : Int32) (hk8 : nm[k8]? = some (piW fl y.2.2.2.2.2.2.2.2.2.2)) (hi : i + 1 ≤ y.2.2.2.2.2.2.2.2.2.2.length) (hcut : cutL y.2.2.2.2.2.2.2.2.2.2 i 1 = drE fl y.2.2.2.2.2.2.2.2.2.2) (hk1 : (P ++ y :: Q).length + 1 ≤ 2600) (hcl : 3 * (clA (skA (P ++ y :: Q)) + 1) ≤ 49000) (x1 x2 x3 x4 x5 x7 x8 : Int32) (e4 : x4 = nI k) (e5 : x5 = nI k2) (e7 : x7 = nI i) (e8 : x8 = nI k8) {o : Option (List AK)} (ho : o = mvF (skA (P ++ y :: Q)) w1 w2 fl x3) :
    kjY kPP (kQQ Y) (d + 7) 200 97 [some (.ref 70), some (.int x1), some (.int x2), some (.int x3), some (.int x4), some (.int x5), some (.ref y.1), some (.int x7), some (.int x8), none] [] σ (cdP σ0 B σ ws nm (P ++ y :: Q) o) := by
  obtain ⟨z1, z2, kv⟩ := w.sz (by rw [hs]; decide)
  have hs0 : ¬ y.2.2.2.2.2.2.1 = 0 := by rw [hs]; decide
  obtain ⟨hr1, hr2⟩ := hr.two
  have hpt : ptI y.2.2.2.2.2.2.1 = 1 := by rw [hs]; rfl
  have hly : y.2.2.2.2.2.2.2.2.2.2.length ≤ clA (skA (P ++ y :: Q)) := by rw [clA_at, hpt]; omega
  refine kjZ_y rfl rfl 5 _ _ _ _ ty ?_
  refine (And.intro (Nat.le_of_ble_eq_true rfl) (And.intro (Or.inl ⟨(Nat.le_of_ble_eq_true rfl), (ty.k (by decide) rfl)⟩) (And.intro (Nat.le_of_ble_eq_true rfl) (And.intro (Nat.le_of_ble_eq_true rfl) (kjY_mono ty (fun q_ u1 ty1 xu1 h_ => ?_) (kx_lrem ty w hs hr2.1 (i := i) (m := 1) hi _ _ e7 rfl))))))
  obtain ⟨rfl, wz, sz⟩ := h_
  intro _ _
  have ek : mkK y (esF (fun es => cutL es i 1) y.2.2.2.2.2) = mkK y (esF (drE fl) y.2.2.2.2.2) := by
    show mkK y (_, _, _, _, _, cutL _ _ _) = mkK y (_, _, _, _, _, drE _ _); rw [hcut]
  rw [ek] at wz
  have kv1 : (u1.2.2.2.1 y.1).1 = 11 := xu1.k ty kv (by decide)
  generalize hy : mkK y (esF (drE fl) y.2.2.2.2.2) = y' at wz
  have y1 : y'.1 = y.1 := by rw [← hy]; rfl
  have yn : y'.2.2.2.2.2.1 = w1 := by rw [← hy]; exact f1
  have ys : y'.2.2.2.2.2.2.1 = 1 := by rw [← hy]; exact hs
  have ye : y'.2.2.2.2.2.2.2.2.2.2 = drE fl y.2.2.2.2.2.2.2.2.2.2 := by rw [← hy]; rfl
  have ywk : wkO y' := by rw [← hy]; exact wkO_mk _ _
  have hM := mvF_k (w2 := w2) (fl := fl) (tl := x3) f2
  rw [hy] at hM
  have hcl' : clA (skA (P ++ y' :: Q)) ≤ clA (skA (P ++ y :: Q)) := by
    rw [clA_at, clA_at, ys, hs, ye, drE_len]
    have : ptI 1 * (y.2.2.2.2.2.2.2.2.2.2.length - 1) ≤ ptI 1 * y.2.2.2.2.2.2.2.2.2.2.length := Nat.mul_le_mul_left _ (Nat.sub_le _ _)
    omega
  have srt := wz.srt
  have bw1 := w.2.2.1.1.b8 ty hk
  have bw2 := w.2.2.1.1.b8 ty hk2
  have inj := w.2.2.1.1.inj hk hk2
  by_cases c : w1 = w2
  · have cc : x4 = x5 := by rw [e4, e5]; exact inj.mpr c
    rw [← y1] at kv1 ⊢
    refine kjZ_y rfl rfl 3 _ _ _ _ ty1 ?_
    refine And.intro (fun c2 => ?_) (fun c2 => ?_)
    rotate_left
    · exact absurd cc c2
    refine kjZ_y rfl rfl 3 _ _ _ _ ty1 ?_
    refine And.intro (fun c3 => ?_) (fun c3 => ?_)
    · exact absurd cc c3
    refine kjZ_y rfl rfl 3 _ _ _ _ ty1 ?_
    refine (And.intro (Nat.le_of_ble_eq_true rfl) ?_)
    refine kjY_mono ty1 (fun r z tz xz hz => ?_) (kx_mv121 (d := d) ty1 wz ys ywk hr1 (k := k2) (by rw [yn, c]; exact hk2) hk8 (by rw [ye, drE_len]; omega) y'.1 x1 x2 x3 x4 x5 x7 x8 e5 e8)
    obtain ⟨hr0, hz⟩ := hz
    rw [hr0]
    refine cd_S sz.g PRE.rf hz ?_
    have hk' : kyI (skA (P ++ y' :: Q)) w2 = some P.length := by rw [← c, ← yn]; exact ky_k srt
    rw [ho, hM, orA_some hk', hk', if_neg (fun z => by cases z.1)]
    show some (stl1 (upA (skA (P ++ y' :: Q)) P.length _) P.length) = _
    rw [skA_app, skA_cons, ← skA_len P, upA_at, stl1_s (fun a ha => by rw [gtA] at ha; cases ha; exact adE_ne _ _ _), skA_app, skA_cons]; rfl
  · have cc : ¬ x4 = x5 := by rw [e4, e5]; exact fun z => c (inj.mp z)
    rw [← y1] at kv1 ⊢
    have hnc : ¬ cmpW y'.2.2.2.2.2.1 w2 = 0 := fun z => c (cmpW_eq _ _ bw1 bw2 (by rw [← yn]; exact z))
    refine kjZ_y rfl rfl 3 _ _ _ _ ty1 ?_
    refine And.intro (fun c2 => ?_) (fun c2 => ?_)
    · exact absurd c2 cc
    refine kjZ_y rfl rfl 5 _ _ _ _ ty1 ?_
    refine (And.intro (ty1.k (by decide) rfl) (And.intro (Nat.le_of_ble_eq_true rfl) (And.intro (Or.inl ⟨(Nat.le_of_ble_eq_true rfl), (ty1.k (by decide) rfl)⟩) (And.intro (Nat.le_of_ble_eq_true rfl) (And.intro (Nat.le_of_ble_eq_true rfl) (kjY_mono ty1 (fun q_ u2 ty2 xu2 h_ => ?_) (kx_settle ty1 wz (k := k) (by rw [yn]; exact hk) _ e4)))))))
    obtain ⟨rfl, s2, c2', q2⟩ := h_
    intro _ _
    have kv2 : (u2.2.2.2.1 y'.1).1 = 11 := xu2.k ty1 kv1 (by decide)
    obtain ⟨ks2, w2', hr2', hcl2, hlen2, hmem2, hfin⟩ : ∃ ks2, KWd σ0 B u2 ws nm ks2 ∧ RSD ks2 ∧ clA (skA ks2) ≤ clA (skA (P ++ y :: Q)) ∧ ks2.length ≤ (P ++ y :: Q).length ∧ (∀ x ∈ ks2, ¬ x.2.2.2.2.2.1 = w1 → x ∈ P ++ y :: Q) ∧ stl1 (upA (orA (skA (P ++ y' :: Q)) w2 1).1 (orA (skA (P ++ y' :: Q)) w2 1).2 (esF (adE x3 (piW fl y.2.2.2.2.2.2.2.2.2.2)))) (if kyI (skA (P ++ y' :: Q)) w2 = none ∧ (orA (skA (P ++ y' :: Q)) w2 1).2 ≤ P.length then P.length + 1 else P.length) = upA (orA (skA ks2) w2 1).1 (orA (skA ks2) w2 1).2 (esF (adE x3 (piW fl y.2.2.2.2.2.2.2.2.2.2))) := by
      have srt' := srt
      rw [skA_app, skA_cons] at srt'
      rcases q2 with ⟨q3, q4⟩ | ⟨q3, q4⟩
      · refine ⟨P ++ Q, q4, hr1, ?_, ?_, fun x hx _ => ?_, ?_⟩
        · rw [clA_app, clA_at]; omega
        · rw [List.length_append, List.length_append, List.length_cons]; omega
        · rcases List.mem_append.mp hx with z | z
          · exact List.mem_append_left _ z
          · exact List.mem_append_right _ (List.mem_cons_of_mem _ z)
        · rw [← skA_len P, skA_app, skA_app, skA_cons]
          exact mv_drop srt' w2 hnc q3.2 _ 1
      · refine ⟨P ++ rcK y' :: Q, q4, ?_, ?_, ?_, fun x hx hx2 => ?_, ?_⟩
        · intro x hx
          rcases List.mem_append.mp hx with z | z
          · exact hr1 x (List.mem_append_left _ z)
          · rcases List.mem_cons.mp z with z | z
            · rw [z]; exact ⟨ywk, rfl⟩
            · exact hr1 x (List.mem_append_right _ z)
        · have : clA (skA (P ++ rcK y' :: Q)) = clA (skA (P ++ y' :: Q)) := by rw [clA_at, clA_at]; rfl
          rw [this]; exact hcl'
        · rw [List.length_append, List.length_append, List.length_cons, List.length_cons]; exact Nat.le_refl _
        · rcases List.mem_append.mp hx with z | z
          · exact List.mem_append_left _ z
          · rcases List.mem_cons.mp z with z | z
            · exact absurd (by rw [z]; exact yn) hx2
            · exact List.mem_append_right _ (List.mem_cons_of_mem _ z)
        · have er : skA (P ++ rcK y' :: Q) = skA (P ++ y' :: Q) := by rw [skA_app, skA_app, skA_cons, skA_cons]; rfl
          rw [er, ← skA_len P, skA_app, skA_cons]
          exact mv_keep srt' w2 (fun z => q3 ⟨by rw [ys]; decide, z⟩) _ (fun b => adE_ne _ _ _) 1
    have sG : SCl scG σ u2 := sz.g.tr (s2.sub scGE)
    refine kjZ_y rfl rfl 3 _ _ _ _ ty2 ?_
    refine And.intro (fun c3 => ?_) (fun c3 => ?_)
    rotate_left
    · exact absurd cc (fun z => c3 z)
    refine kjZ_y rfl rfl 5 _ _ _ _ ty2 ?_
    refine (And.intro (ty2.k (by decide) rfl) (And.intro (Nat.le_of_ble_eq_true rfl) (And.intro (Or.inl ⟨(Nat.le_of_ble_eq_true rfl), (ty2.k (by decide) rfl)⟩) (And.intro (Nat.le_of_ble_eq_true rfl) (And.intro (Nat.le_of_ble_eq_true rfl) (kjY_mono ty2 (fun q_ u3 ty3 xu3 h_ => ?_) (kx_orMake ty2 w2' hk2 (s := 1) (by decide) (fun _ => by omega) _ _ e5 rfl)))))))
    obtain ⟨R, x, S, rfl, w3, s3, g1, g2⟩ := h_
    intro _ _
    have hxs : x.2.2.2.2.2.2.1 = 1 := by
      rcases g2 with ⟨g3, g4⟩ | ⟨-, -, -, -, -, g⟩
      · have hm := hmem2 x (by rw [g3]; exact List.mem_append_right _ List.mem_cons_self) (fun z => c (z.symm.trans g1))
        obtain ⟨P', Q', e⟩ := List.append_of_mem hm
        have srt0 := w.srt
        rw [e] at hso2 srt0
        have := ky_k srt0
        rw [g1] at this
        exact so_1 (s := 1) this hso2
      · rw [g]; rfl
    have kv3 := (w3.sz (by rw [hxs]; decide)).2.2
    have hrs : RSD (R ++ S) ∧ wkO x := by
      rcases g2 with ⟨g3, g4⟩ | ⟨g3, -, -, g4, -, g⟩
      · rw [g3] at hr2'; exact ⟨hr2'.two.1, hr2'.two.2.1⟩
      · rw [← g3]; refine ⟨hr2', ?_⟩; unfold wkO; rw [g4, g]; rfl
    have hcx : 2 * x.2.2.2.2.2.2.2.2.2.2.length + 1 + clA (skA (R ++ x :: S)) ≤ 49152 := by
      have e1 : ptI x.2.2.2.2.2.2.1 = 1 := by rw [hxs]; rfl
      rcases g2 with ⟨g3, g4⟩ | ⟨g3, -, -, g4, -, g⟩
      · rw [g3, clA_at, e1] at hcl2
        rw [clA_at, e1]; omega
      · rw [g3, clA_app] at hcl2
        rw [clA_at, e1, g]; show 2 * 0 + 1 + (_ + 1 * 0 + _) ≤ _; omega
    refine kjZ_y rfl rfl 1 _ _ _ _ ty3 ?_
    refine (And.intro (Nat.le_of_ble_eq_true rfl) ?_)
    refine kjY_mono ty3 (fun r z tz xz hz => ?_) (kx_mv121 (d := d) ty3 w3 hxs hrs.2 hrs.1 (k := k2) (by rw [g1]; exact hk2) hk8 hcx y'.1 x1 x2 x3 x4 x5 x7 x8 e5 e8)
    obtain ⟨hr0, hz⟩ := hz
    rw [hr0]
    refine cd_S (sG.tr s3.g) PRE.rf hz ?_
    rw [ho, hM, hfin]
    rcases g2 with ⟨g3, g4⟩ | ⟨g3, g4, g5, -, -, g⟩
    · rw [orA_some g4, g3]
      show some (upA (skA (R ++ x :: S)) R.length _) = _
      rw [skA_app, skA_cons, ← skA_len R, upA_at, skA_app, skA_cons]; rfl
    · rw [orA_none g4, ← g5, g3, skA_app]
      unfold inA
      have el : R.length = (skA R).length := (skA_len R).symm
      show some (upA ((skA R ++ skA S).take R.length ++ (w2, 1, 0, 0, [], []) :: (skA R ++ skA S).drop R.length) R.length _) = _
      rw [el, List.take_left, List.drop_left, upA_at, skA_app, skA_cons]
      show _ = some (skA R ++ esF _ x.2.2.2.2.2 :: skA S)
      rw [g]; rfl
end KMOVE
