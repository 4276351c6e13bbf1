/-! HSET, HSETNX; HDEL, SREM; SADD. -/
section HASH
variable {Y : Nat → MethodName × ByteArray} {d : Nat}
/-- an element's value becomes another one -/
def gvE (i : Nat) (v : List Int32) : List AE → List AE
  | [] => []
  | z :: r => match i with
    | 0 => (z.1, v, z.2.2) :: r
    | i + 1 => z :: gvE i v r
theorem gvE_at (E1 : List AE) (z : AE) (E2 : List AE) (v : List Int32) : gvE E1.length v (E1 ++ z :: E2) = E1 ++ (z.1, v, z.2.2) :: E2 := by
  induction E1 with
  | nil => rfl
  | cons y r ih => show y :: gvE r.length v (r ++ z :: E2) = _; rw [ih]; rfl
/-- a field and its value -/
def hpE (f v : List Int32) (es : List AE) : List AE := gvE (skI f es) v (ptE f es)
def hpA : List AE → List (List Int32) → List AE
  | es, f :: v :: r => hpA (hpE f v es) r
  | es, _ => es
theorem gvE_tT (v : List Int32) : ∀ (es : List AE) (i : Nat), eT (gvE i v es) ≤ eT es + v.length ∧ (gvE i v es).length = es.length := by
  intro es
  induction es with
  | nil => intro i; unfold gvE; exact ⟨Nat.zero_le _, rfl⟩
  | cons z r ih =>
    intro i
    cases i with
    | zero =>
      refine ⟨?_, rfl⟩
      show z.1.length + v.length + eT r ≤ z.1.length + z.2.1.length + eT r + v.length
      omega
    | succ i =>
      have := ih i
      refine ⟨?_, ?_⟩
      · show z.1.length + z.2.1.length + eT (gvE i v r) ≤ z.1.length + z.2.1.length + eT r + v.length
        omega
      · show (gvE i v r).length + 1 = r.length + 1
        omega
theorem tT_with (P Q : List KR) (y : KR) (es : List ER) : tT (strip (P ++ withE y es :: Q)) + eT (y.2.2.2.2.2.2.map (fun z => z.2)) = tT (strip (P ++ y :: Q)) + eT (es.map (fun z => z.2)) := by
  rw [tT_at, tT_at, tT_1, tT_1]
  show _ + (y.2.1.length + y.2.2.2.2.2.1.length + eT (es.map (fun z => z.2))) + _ + _ = _ + (y.2.1.length + y.2.2.2.2.2.1.length + eT (y.2.2.2.2.2.2.map (fun z => z.2))) + _ + _
  omega
theorem eN_with (P Q : List KR) (y : KR) (es : List ER) : eN (strip (P ++ withE y es :: Q)) + y.2.2.2.2.2.2.length = eN (strip (P ++ y :: Q)) + es.length := by
  rw [eN_at, eN_at, eN_1, eN_1]
  show _ + (es.map (fun z => z.2)).length + _ + _ = _ + (y.2.2.2.2.2.2.map (fun z => z.2)).length + _ + _
  rw [List.length_map, List.length_map]; omega
theorem W_with {σ : mjS} {ws : List (List Int32)} {P Q : List KR} {y : KR} {es es' : List ER} {l : List Int32} (h : Wd σ ws (P ++ withE (withE y es) es' :: Q) l) : Wd σ ws (P ++ withE y es' :: Q) l := h
set_option maxRecDepth 100000 in
theorem c_hp_loop (K : mjK) (x1 x3 : Int32) {ws : List (List Int32)} {l : List Int32} {P Q : List KR} (k : Nat) (x2 : Int32) (e2 : x2 = nI k) : ∀ (m a : Nat) (σ : mjS) (y : KR) (x4 : Int32) (l5 : Option Value), a + 2 * m = ws.length → x4 = nI a → y.1 = k → mjTY σ → Wd σ ws (P ++ y :: Q) l → tT (strip (P ++ y :: Q)) + sl (ws.drop a) ≤ 200000 → eN (strip (P ++ y :: Q)) + m < 10000 →
    (∀ u y' x4 l5, mjTY u → Fr (f_found :: kF) kH σ u → y'.1 = k → Wd u ws (P ++ y' :: Q) l → st1 y' = esF (fun es => hpA es (ws.drop a)) (st1 y) → mjY mjPP (mjQQ Y) (d + 5) 119 70 [some (.ref 0), some (.int x1), some (.int x2), some (.int x3), some (.int x4), l5] [] u K) →
    mjY mjPP (mjQQ Y) (d + 5) 119 28 [some (.ref 0), some (.int x1), some (.int x2), some (.int x3), some (.int x4), l5] [] σ K := by
  intro m
  induction m with
  | zero =>
    intro a σ y x4 l5 ha e4 hy ty h ht hn hK
    have h1024 := h.2.1.2.1
    refine mjZ_y rfl rfl 4 _ _ _ _ ty ?_
    refine (And.intro rfl (And.intro (fun q => ?_) (fun q => ?_)))
    · refine hK σ y _ _ ty Fr.rf hy h ?_
      rw [List.drop_of_length_le (by omega)]; rfl
    · exact absurd (show σ.1 f_words ≤ x4 by rw [h.2.1.1, e4]; exact nI_le (by omega) (by omega)) q
  | succ m ih =>
    intro a σ y x4 l5 ha e4 hy ty h ht hn hK
    have h1024 := h.2.1.2.1
    obtain ⟨f, v, hf, hv, ed⟩ := drop2 ha
    rw [ed] at ht hK
    have ht : tT (strip (P ++ y :: Q)) + (f.length + (v.length + sl (ws.drop (a + 2)))) ≤ 200000 := ht
    have e2y : x2 = nI y.1 := by rw [hy]; exact e2
    obtain ⟨v4, -⟩ := h.2.1.clamp hf e4
    refine mjZ_y rfl rfl 4 _ _ _ _ ty ?_
    refine (And.intro rfl (And.intro (fun q => ?_) (fun q => ?_)))
    · exact absurd (show σ.1 f_words ≤ x4 from q) (by rw [h.2.1.1, e4]; exact nI_ge (by omega) (by omega))
    · refine mjZ_y rfl rfl 13 _ _ _ _ ty ?_
      refine (And.intro rfl (And.intro rfl (And.intro rfl (And.intro v4 (And.intro rfl (And.intro rfl (And.intro v4 (And.intro (Nat.le_of_ble_eq_true rfl) (And.intro rfl (And.intro (Nat.le_of_ble_eq_true rfl) (And.intro (Nat.le_of_ble_eq_true rfl) (mjY_mono ty (fun q_ u1 ty1 h_ => ?_) (w_put h ty hf e2y e4 (by omega) (by omega) (by omega))))))))))))))
      obtain ⟨F1, t, F2, rfl, f1, h1, hl, hm⟩ := h_
      intro _
      have pm := ptE_tT f (y.2.2.2.2.2.2.map (fun z => z.2))
      rw [← hm] at pm
      have g1 := tT_with P Q y (F1 ++ t :: F2)
      have g2 := eN_with P Q y (F1 ++ t :: F2)
      have pm2 := pm.2
      rw [List.length_map, List.length_map] at pm2
      obtain ⟨hz, hh, ho⟩ := h1.eid (y := t) (show t ∈ F1 ++ t :: F2 from List.mem_append_right _ List.mem_cons_self)
      have tid := ho.1
      have v5 : vp_in (nI t.1) 10000 := vp_in_nI tid (by decide)
      refine mjZ_y rfl rfl 6 _ _ _ _ ty1 ?_
      refine (And.intro (Nat.le_of_ble_eq_true rfl) (And.intro rfl (And.intro rfl (And.intro v5 (fun ty1' => ?_)))))
      have h2 := W_with (h1.vlen (x := withE y (F1 ++ t :: F2)) (E1 := F1) (E2 := F2) rfl (c := (nI t.1).toNatClampNeg) (nI_clamp (by omega)))
      have f2 : Fr (f_found :: kF) kH u1 (u1.1, u1.2.1, mjIu u1.2.2.1 r_vLen (nI t.1).toNatClampNeg 0, u1.2.2.2) := Fr.a (h := r_vLen) (by decide)
      have g3 := tT_with P Q y (F1 ++ (t.1, t.2.1, [], t.2.2.2) :: F2)
      have g4 : eT ((F1 ++ (t.1, t.2.1, [], t.2.2.2) :: F2).map (fun z => z.2)) ≤ eT ((F1 ++ t :: F2).map (fun z => z.2)) := by
        rw [List.map_append, List.map_append, List.map_cons, List.map_cons, eT_app, eT_app]
        show _ + (t.2.1.length + 0 + _) ≤ _ + (t.2.1.length + t.2.2.1.length + _)
        omega
      obtain ⟨v6, b, eb, el, hb, ew⟩ := h2.2.1.clamp hv (x := x4 + Int32.ofInt 1) (by rw [e4]; exact nI_1 a)
      refine mjZ_y rfl rfl 17 _ _ _ _ ty1' ?_
      refine (And.intro rfl (And.intro rfl (And.intro rfl (And.intro v6 (And.intro rfl (And.intro rfl (And.intro v6 (And.intro (Nat.le_of_ble_eq_true rfl) (And.intro rfl (And.intro (Nat.le_of_ble_eq_true rfl) (And.intro (Nat.le_of_ble_eq_true rfl) (mjY_mono ty1' (fun q_ u3 ty3 h_ => ?_) (w_give h2 ty1' (x := withE y (F1 ++ (t.1, t.2.1, [], t.2.2.2) :: F2)) (y := (t.1, t.2.1, [], t.2.2.2)) (E1 := F1) (E2 := F2) rfl r_req b v.length rfl (by decide) hb (by decide) (by omega) (by omega) rfl eb el)))))))))))))
      obtain ⟨rfl, h3, f3⟩ := h_
      intro _
      have h3 : Wd u3 ws (P ++ withE y (F1 ++ (t.1, t.2.1, wd (u1.2.2.1 r_req) b v.length, t.2.2.2) :: F2) :: Q) l := h3
      have ew : wd (u1.2.2.1 r_req) b v.length = v := ew
      rw [ew] at h3
      refine mjZ_y rfl rfl 2 _ _ _ _ ty3 ?_
      have em : (F1 ++ (t.1, t.2.1, v, t.2.2.2) :: F2).map (fun z => z.2) = hpE f v (y.2.2.2.2.2.2.map (fun z => z.2)) := by
        unfold hpE
        rw [← hm, ← hl, List.map_append, List.map_cons, List.map_append, List.map_cons]
        have e := gvE_at (F1.map (fun z => z.2)) t.2 (F2.map (fun z => z.2)) v
        rw [List.length_map] at e
        exact e.symm
      have s1 : st1 (withE y (F1 ++ (t.1, t.2.1, v, t.2.2.2) :: F2)) = esF (hpE f v) (st1 y) := st1_with em
      have g5 := tT_with P Q y (F1 ++ (t.1, t.2.1, v, t.2.2.2) :: F2)
      have g6 : eT ((F1 ++ (t.1, t.2.1, v, t.2.2.2) :: F2).map (fun z => z.2)) ≤ eT ((F1 ++ t :: F2).map (fun z => z.2)) + v.length := by
        rw [List.map_append, List.map_append, List.map_cons, List.map_cons, eT_app, eT_app]
        show _ + (t.2.1.length + v.length + _) ≤ _ + (t.2.1.length + t.2.2.1.length + _) + _
        omega
      have g7 := eN_with P Q y (F1 ++ (t.1, t.2.1, v, t.2.2.2) :: F2)
      have g8 : (F1 ++ (t.1, t.2.1, v, t.2.2.2) :: F2).length = (F1 ++ t :: F2).length := by rw [List.length_append, List.length_append, List.length_cons, List.length_cons]
      refine ih (a + 2) u3 (withE y (F1 ++ (t.1, t.2.1, v, t.2.2.2) :: F2)) _ _ (by omega) (by rw [e4]; exact nI_add a 2) hy ty3 h3 (by omega) (by omega) (fun u y' x4 l5 tu fu hy' hu eu => hK u y' x4 l5 tu ((f1.tr (f2.tr (f3.up (by decide) (fun _ q => q)))).tr fu) hy' hu ?_)
      rw [eu, s1]; rfl
def hsF (A : List AK) (w : List Int32) (i : Nat) (vs : List (List Int32)) (f : List Int32) (mb : Bool) : Option (List AK) := if i = 53 ∧ mb = true then none else some (upA (orA A w 2).1 (orA A w 2).2 (esF (fun es => hpA es vs)))
/-- the element is there, as a test -/
def mbT (A : List AK) (w v : List Int32) : Bool := match kyI A w with
  | some p => (match A[p]? with
    | some a => skT v a.2.2.2.2.2
    | none => false)
  | none => false
theorem mbT_iff {A : List AK} {w v : List Int32} : mbT A w v = true ↔ mbA A w v := by
  unfold mbT mbA
  cases h : kyI A w with
  | none => exact ⟨fun z => absurd (show false = true from z) (by decide), fun ⟨p, a, e, _⟩ => absurd e (fun q => by cases q)⟩
  | some p =>
    show (match A[p]? with | some a => skT v a.2.2.2.2.2 | none => false) = true ↔ _
    cases h2 : A[p]? with
    | none => exact ⟨fun z => absurd (show false = true from z) (by decide), fun ⟨q, a, e, e2, _⟩ => by rw [← Option.some.inj e, h2] at e2; cases e2⟩
    | some a =>
      show skT v a.2.2.2.2.2 = true ↔ _
      rw [skT_iff]
      exact ⟨fun z => ⟨p, a, rfl, h2, z⟩, fun ⟨q, a', e, e2, z⟩ => by rw [← Option.some.inj e, h2] at e2; rw [Option.some.inj e2]; exact z⟩
set_option maxRecDepth 100000 in
theorem r_hashPut {σ : mjS} {ws : List (List Int32)} {ks : List KR} {l : List Int32} (h : Wd σ ws ks l) (ty : mjTY σ) (i1 : Nat) (hi : i1 < 128) {x1 : Int32} (e1 : x1 = nI i1) {w f : List Int32} (h1 : ws[1]? = some w) (h2 : ws[2]? = some f) (m : Nat) (hm : 2 + 2 * m = ws.length) (ht : tT (strip ks) + sl ws ≤ 200000) (hn : eN (strip ks) + m < 10000) (hl : ks.length < 4700) (hs : l.length + 132 + sz ws ≤ 420000) :
    mjY mjPP (mjQQ Y) (d + 6) 119 0 (mjL0 6 [.ref 0, .int x1]) [] σ (cmdK σ ws ks l i1 (hsF (strip ks) w i1 (ws.drop 2) f (mbT (strip ks) w f))) := by
  have nn : ∀ c : Nat, c < 128 → ((¬ x1 = nI c) ↔ ¬ i1 = c) := fun c hc => by rw [e1, nI_eq (by omega) (by omega)]
  have hsl : w.length + sl (ws.drop 2) ≤ sl ws := sl_get h1
  have main : ∀ (x2 : Int32) (u1 : mjS), mjTY u1 → Wd u1 ws ks l → Fr [f_found] [] σ u1 → ¬ (i1 = 53 ∧ mbT (strip ks) w f = true) → mjY mjPP (mjQQ Y) (d + 6) 119 16 [some (.ref 0), some (.int x1), some (.int x2), none, none, none] [] u1 (cmdK σ ws ks l i1 (hsF (strip ks) w i1 (ws.drop 2) f (mbT (strip ks) w f))) := by
    intro x2 u1 ty1 h3 f3 ng
    have eo : hsF (strip ks) w i1 (ws.drop 2) f (mbT (strip ks) w f) = some (upA (orA (strip ks) w 2).1 (orA (strip ks) w 2).2 (esF (fun es => hpA es (ws.drop 2)))) := if_neg ng
    rw [eo]
    have om := orA_m (strip ks) w 2
    refine mjZ_y rfl rfl 4 _ _ _ _ ty1 ?_
    refine (And.intro (Nat.le_of_ble_eq_true rfl) (And.intro rfl (And.intro (Nat.le_of_ble_eq_true rfl) (And.intro (Nat.le_of_ble_eq_true rfl) (mjY_mono ty1 (fun q_ u2 ty2 h_ => ?_) (w_makeOr h3 ty1 h1 (x := Int32.ofInt 1) rfl 2 (by omega) (by omega) hl))))))
    obtain ⟨P, y, Q, rfl, h4, f4, g1, g2⟩ := h_
    intro _
    obtain ⟨-, -, -, vk⟩ := W_tail h4 rfl
    refine mjZ_y rfl rfl 8 _ _ _ _ ty2 ?_
    refine (And.intro (Nat.le_of_ble_eq_true rfl) (And.intro rfl (And.intro rfl (And.intro vk (And.intro (Nat.le_of_ble_eq_true rfl) (And.intro (Nat.le_of_ble_eq_true rfl) ?_))))))
    refine c_hp_loop _ x1 _ y.1 _ rfl m 2 u2 y _ _ hm rfl rfl ty2 h4 (by rw [g1]; omega) (by rw [g1]; omega) (fun u y' x4 l5 tu fu hy hu eu => ?_)
    have e2 : nI y.1 = nI y'.1 := by rw [hy]
    refine mjZ_y rfl rfl 3 _ _ _ _ tu ?_
    refine (And.intro (Nat.le_of_ble_eq_true rfl) (And.intro rfl (And.intro (Nat.le_of_ble_eq_true rfl) (And.intro (Nat.le_of_ble_eq_true rfl) (mjY_mono tu (fun q_ u5 ty5 h_ => ?_) (w_touch hu tu (x := y') (List.mem_append_right _ List.mem_cons_self) e2))))))
    obtain ⟨rfl, h5, f5⟩ := h_
    intro _
    refine mjZ_y rfl rfl 3 _ _ _ _ ty5 ?_
    refine (And.intro (Nat.le_of_ble_eq_true rfl) (And.intro rfl (And.intro (Nat.le_of_ble_eq_true rfl) (And.intro (Nat.le_of_ble_eq_true rfl) (mjY_mono ty5 (fun q_ u6 ty6 h_ => ?_) (w_noteAll h5 ty5 (by omega) i1 e1 hi hs))))))
    obtain ⟨rfl, h6, f6⟩ := h_
    intro _
    refine mjZ_y rfl rfl 9 _ _ _ _ ty6 ?_
    refine (And.intro rfl (And.intro rfl (And.intro vk (And.intro (Nat.le_of_ble_eq_true rfl) (And.intro rfl (And.intro (Nat.le_of_ble_eq_true rfl) (And.intro (Nat.le_of_ble_eq_true rfl) (mjY_mono ty6 (fun q_ u7 ty7 h_ => ?_) (w_number h6 ty6 _)))))))))
    obtain ⟨rfl, h7, f7⟩ := h_
    intro _
    refine mjZ_y rfl rfl 1 _ _ _ _ ty7 ?_
    refine And.intro rfl (And.intro rfl ?_)
    have fa : Fr cF cH σ u5 := ((f3.up (by decide) (by decide)).tr (f4.k.tr (fu.up (by decide) (by decide)))).tr f5.t
    rw [ntA_fr fa] at h7
    refine ⟨rfl, (fa.tr f6.n).tr f7.c, _, h7, ?_⟩
    rw [← g1, ← g2]
    exact strip_up eu
  refine mjZ_y rfl rfl 3 _ _ _ _ ty ?_
  refine (And.intro (Nat.le_of_ble_eq_true rfl) (And.intro rfl (And.intro (Nat.le_of_ble_eq_true rfl) (And.intro (Nat.le_of_ble_eq_true rfl) (mjY_mono ty (fun q_ u1 ty1 h_ => ?_) (w_key h ty h1 (x := Int32.ofInt 1) rfl))))))
  obtain ⟨rfl, rfl⟩ := h_
  intro _
  refine mjZ_y rfl rfl 4 _ _ _ _ ty1 ?_
  refine (And.intro (Nat.le_of_ble_eq_true rfl) (And.intro (fun q => ?_) (fun q => ?_)))
  · have q := (nn 53 (by decide)).mp q
    exact main _ u1 ty1 h Fr.rf (fun z => q z.1)
  · have q : i1 = 53 := Decidable.of_not_not (fun z => q ((nn 53 (by decide)).mpr z))
    refine mjZ_y rfl rfl 4 _ _ _ _ ty1 ?_
    refine (And.intro (Nat.le_of_ble_eq_true rfl) (And.intro rfl (And.intro (Nat.le_of_ble_eq_true rfl) (And.intro (Nat.le_of_ble_eq_true rfl) (mjY_mono ty1 (fun q_ u2 ty2 h_ => ?_) (w_member h ty1 (w := w) h2 rfl (x2 := Int32.ofInt 2) rfl))))))
    obtain ⟨r, rfl, f3, h3, hr⟩ := h_
    intro _
    refine mjZ_y rfl rfl 1 _ _ _ _ ty2 ?_
    refine And.intro (fun c => ?_) (fun c => ?_)
    · rcases hr with ⟨b, er⟩ | ⟨b, P, y, Q, F1, t, F2, g0, g1, g2, hF, hl3, er⟩
      · exact main _ u2 ty2 h3 f3 (fun z => b (mbT_iff.mp z.2))
      · have h' : Wd u2 ws (P ++ y :: Q) l := by rw [← g0]; exact h3
        have hid := (h'.eid (y := t) (by rw [hF]; exact List.mem_append_right _ List.mem_cons_self)).elim (fun _ k => k.2.1)
        exact absurd (show r < 0 from c) (lt_nI (by omega) er)
    · rcases hr with ⟨b, er⟩ | ⟨b, -⟩
      · exact absurd (lt_m1 er) c
      · have eo : hsF (strip ks) w i1 (ws.drop 2) f (mbT (strip ks) w f) = none := if_pos ⟨q, mbT_iff.mpr b⟩
        rw [eo]
        refine mjZ_y rfl rfl 3 _ _ _ _ ty2 ?_
        refine (And.intro (Nat.le_of_ble_eq_true rfl) (And.intro rfl (And.intro (Nat.le_of_ble_eq_true rfl) (And.intro (Nat.le_of_ble_eq_true rfl) (mjY_mono ty2 (fun q_ u4 ty4 h_ => ?_) (w_number h3 ty2 _))))))
        obtain ⟨rfl, h4, f4⟩ := h_
        intro _
        refine mjZ_y rfl rfl 1 _ _ _ _ ty4 ?_
        refine And.intro rfl (And.intro rfl ?_)
        exact ⟨rfl, (f3.up (by decide) (by decide)).tr f4.c, ks, h4, rfl⟩
end HASH
