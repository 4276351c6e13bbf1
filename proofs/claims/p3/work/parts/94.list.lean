/-! Lists: pushes and pops. -/
section LIST
variable {Y : Nat → MethodName × ByteArray} {d : Nat}
theorem tT_at (P Q : List KR) (y : KR) : tT (strip (P ++ y :: Q)) = tT (strip P) + tT [st1 y] + tT (strip Q) := by
  rw [strip_app, strip_cons, tT_app, tT_cons]; omega
theorem eN_at (P Q : List KR) (y : KR) : eN (strip (P ++ y :: Q)) = eN (strip P) + eN [st1 y] + eN (strip Q) := by
  rw [strip_app, strip_cons, eN_app, eN_cons]; omega
def esF (g : List AE → List AE) (a : AK) : AK := (a.1, a.2.1, a.2.2.1, a.2.2.2.1, a.2.2.2.2.1, g a.2.2.2.2.2)
def psE (i : Nat) : List AE → List (List Int32) → List AE
  | es, [] => es
  | es, v :: vs => psE i (if i = 38 ∨ i = 40 then es ++ [(v, [], 0)] else (v, [], 0) :: es) vs
theorem W_tail {σ : mjS} {ws : List (List Int32)} {P Q : List KR} {y : KR} {l : List Int32} (h : Wd σ ws (P ++ y :: Q) l) {x : Int32} (ex : x = nI y.1) : σ.2.2.1 r_kTail x.toNatClampNeg = lst (-1) (ids y.2.2.2.2.2.2) ∧ σ.2.2.1 r_kHead x.toNatClampNeg = nx (ids y.2.2.2.2.2.2) ∧ σ.2.2.1 r_kMany x.toNatClampNeg = nI y.2.2.2.2.2.2.length ∧ vp_in x 4700 := by
  obtain ⟨hs, hh, hk⟩ := h.kok (List.mem_append_right P (List.mem_cons_self (a := y) (l := Q)))
  have hid := hk.1
  rw [ex, nI_clamp (by omega)]
  exact ⟨hk.2.2.2.2.2.2.2.1, hk.2.2.2.2.2.2.1, hk.2.2.2.2.2.2.2.2.1, vp_in_nI hid (by decide)⟩
theorem W_len {σ : mjS} {ws : List (List Int32)} {P Q : List KR} {y : KR} {l : List Int32} (h : Wd σ ws (P ++ y :: Q) l) : y.2.2.2.2.2.2.length ≤ 10000 := by
  obtain ⟨⟨hs, fk, fe, k⟩, -⟩ := h
  have e : (eIds (P ++ y :: Q) ++ fe).length = 10000 := k.2.2.2.2.2.2.2.2.2.2.2.2.1
  rw [List.length_append, eIds_app, eIds_cons, List.length_append, List.length_append] at e
  have e2 : (ids y.2.2.2.2.2.2).length = y.2.2.2.2.2.2.length := by unfold ids; rw [List.length_map]
  omega
set_option maxRecDepth 100000 in
theorem c_push_loop (K : mjK) (i1 : Nat) (hi : i1 < 128) (x1 : Int32) (e1 : x1 = nI i1) {ws : List (List Int32)} {l : List Int32} {P Q : List KR} (k : Nat) (x2 : Int32) (e2 : x2 = nI k) : ∀ (m a : Nat) (σ : mjS) (y : KR) (x3 : Int32) (l4 l5 : Option Value), a + m = ws.length → x3 = nI a → y.1 = k → mjTY σ → Wd σ ws (P ++ y :: Q) l → tT (strip (P ++ y :: Q)) + sl (ws.drop a) ≤ 200000 → eN (strip (P ++ y :: Q)) + m < 10000 →
    (∀ u y' x3 l4 l5, mjTY u → Fr kF kH σ u → y'.1 = k → Wd u ws (P ++ y' :: Q) l → st1 y' = esF (fun es => psE i1 es (ws.drop a)) (st1 y) → mjY mjPP (mjQQ Y) (d + 4) 104 60 [some (.ref 0), some (.int x1), some (.int x2), some (.int x3), l4, l5] [] u K) →
    mjY mjPP (mjQQ Y) (d + 4) 104 23 [some (.ref 0), some (.int x1), some (.int x2), some (.int x3), l4, l5] [] σ K := by
  intro m
  induction m with
  | zero =>
    intro a σ y x3 l4 l5 ha e3 hy ty h ht hn hK
    have h1024 := h.2.1.2.1
    refine mjZ_y rfl rfl 4 _ _ _ _ ty ?_
    refine (And.intro rfl (And.intro (fun q => ?_) (fun q => ?_)))
    · refine hK σ y _ _ _ ty Fr.rf hy h ?_
      rw [List.drop_of_length_le (by omega)]; rfl
    · exact absurd (show σ.1 f_words ≤ x3 by rw [h.2.1.1, e3]; exact nI_le (by omega) (by omega)) q
  | succ m ih =>
    intro a σ y x3 l4 l5 ha e3 hy ty h ht hn hK
    have h1024 := h.2.1.2.1
    obtain ⟨v, hv, ed⟩ := drop1 ha
    rw [ed] at ht hK
    have ht : tT (strip (P ++ y :: Q)) + (v.length + sl (ws.drop (a + 1))) ≤ 200000 := ht
    have e2y : x2 = nI y.1 := by rw [hy]; exact e2
    obtain ⟨kT, kHd, kM, vk⟩ := W_tail h e2y
    have nn : ∀ c : Nat, c < 128 → ((x1 = nI c) ↔ i1 = c) := fun c hc => by rw [e1, nI_eq (by omega) (by omega)]
    -- from the insert on
    have go : ∀ (x4 : Int32) (E1 E2 : List ER), y.2.2.2.2.2.2 = E1 ++ E2 → x4 = lst (-1) (ids E1) → (E1 ++ E2).map (fun z => z.2) = y.2.2.2.2.2.2.map (fun z => z.2) → (E1.map (fun z => z.2) ++ (v, [], 0) :: E2.map (fun z => z.2)) = (if i1 = 38 ∨ i1 = 40 then y.2.2.2.2.2.2.map (fun z => z.2) ++ [(v, [], 0)] else (v, [], 0) :: y.2.2.2.2.2.2.map (fun z => z.2)) → mjY mjPP (mjQQ Y) (d + 4) 104 40 [some (.ref 0), some (.int x1), some (.int x2), some (.int x3), some (.int x4), l5] [] σ K := by
      intro x4 E1 E2 hE e4 _ hm
      refine mjZ_y rfl rfl 4 _ _ _ _ ty ?_
      refine (And.intro (Nat.le_of_ble_eq_true rfl) (And.intro rfl (And.intro (Nat.le_of_ble_eq_true rfl) (And.intro (Nat.le_of_ble_eq_true rfl) (mjY_mono ty (fun q_ u1 ty1 h_ => ?_) (w_insert h ty hE (by omega) e2y e4))))))
      obtain ⟨e, he, rfl, h2, f2⟩ := h_
      intro _
      obtain ⟨v3, b, eb, el, hb, ew⟩ := h2.2.1.clamp hv e3
      have t1 : tT (strip (P ++ withE y (E1 ++ (e, [], [], 0) :: E2) :: Q)) = tT (strip (P ++ y :: Q)) := by
        rw [tT_at, tT_at, tT_1, tT_1]
        show _ + (y.2.1.length + y.2.2.2.2.2.1.length + eT ((E1 ++ (e, [], [], 0) :: E2).map (fun z => z.2))) + _ = _ + (y.2.1.length + y.2.2.2.2.2.1.length + eT (y.2.2.2.2.2.2.map (fun z => z.2))) + _
        rw [hE, List.map_append, List.map_append, List.map_cons, eT_app, eT_app]
        show _ + (_ + (_ + (0 + 0 + _))) + _ = _
        omega
      refine mjZ_y rfl rfl 14 _ _ _ _ ty1 ?_
      refine (And.intro (Nat.le_of_ble_eq_true rfl) (And.intro rfl (And.intro rfl (And.intro rfl (And.intro v3 (And.intro rfl (And.intro rfl (And.intro v3 (And.intro (Nat.le_of_ble_eq_true rfl) (And.intro rfl (And.intro (Nat.le_of_ble_eq_true rfl) (And.intro (Nat.le_of_ble_eq_true rfl) (mjY_mono ty1 (fun q_ u2 ty2 h_ => ?_) (w_name h2 ty1 (x := withE y (E1 ++ (e, [], [], 0) :: E2)) (y := (e, [], [], 0)) (E1 := E1) (E2 := E2) rfl r_req b v.length rfl (by decide) hb (by decide) (by omega) (by omega) rfl eb el))))))))))))))
      obtain ⟨rfl, h3, f3⟩ := h_
      intro _
      rw [ew] at h3
      refine mjZ_y rfl rfl 2 _ _ _ _ ty2 ?_
      have h3 : Wd u2 ws (P ++ withE y (E1 ++ (e, v, [], 0) :: E2) :: Q) l := h3
      have s1 : st1 (withE y (E1 ++ (e, v, [], 0) :: E2)) = esF (fun es => if i1 = 38 ∨ i1 = 40 then es ++ [(v, [], 0)] else (v, [], 0) :: es) (st1 y) := by
        show (y.2.1, y.2.2.1, y.2.2.2.1, tmN y.2.2.2.1 y.2.2.2.2.1, y.2.2.2.2.2.1, (E1 ++ (e, v, [], 0) :: E2).map (fun z => z.2)) = (y.2.1, y.2.2.1, y.2.2.2.1, tmN y.2.2.2.1 y.2.2.2.2.1, y.2.2.2.2.2.1, (if i1 = 38 ∨ i1 = 40 then y.2.2.2.2.2.2.map (fun z => z.2) ++ [(v, [], 0)] else (v, [], 0) :: y.2.2.2.2.2.2.map (fun z => z.2)))
        rw [← hm, List.map_append, List.map_cons]
      have t2 : tT (strip (P ++ withE y (E1 ++ (e, v, [], 0) :: E2) :: Q)) = tT (strip (P ++ y :: Q)) + v.length := by
        rw [tT_at, tT_at, tT_1, tT_1]
        show _ + (y.2.1.length + y.2.2.2.2.2.1.length + eT ((E1 ++ (e, v, [], 0) :: E2).map (fun z => z.2))) + _ = _ + (y.2.1.length + y.2.2.2.2.2.1.length + eT (y.2.2.2.2.2.2.map (fun z => z.2))) + _ + _
        rw [hE, List.map_append, List.map_append, List.map_cons, eT_app, eT_app]
        show _ + (_ + (_ + (v.length + 0 + _))) + _ = _
        omega
      have n2 : eN (strip (P ++ withE y (E1 ++ (e, v, [], 0) :: E2) :: Q)) = eN (strip (P ++ y :: Q)) + 1 := by
        rw [eN_at, eN_at, eN_1, eN_1]
        show _ + ((E1 ++ (e, v, [], 0) :: E2).map (fun z => z.2)).length + _ = _ + (y.2.2.2.2.2.2.map (fun z => z.2)).length + _ + 1
        rw [hE, List.length_map, List.length_map, List.length_append, List.length_append, List.length_cons]; omega
      refine ih (a + 1) u2 (withE y (E1 ++ (e, v, [], 0) :: E2)) _ _ _ (by omega) (by rw [e3]; exact nI_1 a) hy ty2 h3 (by omega) (by omega) (fun u y' x3 l4 l5 tu fu hy' hu eu => hK u y' x3 l4 l5 tu ((f2.tr f3).tr fu) hy' hu ?_)
      rw [eu, s1]; rfl
    refine mjZ_y rfl rfl 4 _ _ _ _ ty ?_
    refine (And.intro rfl (And.intro (fun q => ?_) (fun q => ?_)))
    · exact absurd (show σ.1 f_words ≤ x3 from q) (by rw [h.2.1.1, e3]; exact nI_ge (by omega) (by omega))
    · have rgt : (i1 = 38 ∨ i1 = 40) → mjY mjPP (mjQQ Y) (d + 4) 104 35 [some (.ref 0), some (.int x1), some (.int x2), some (.int x3), some (.int (-1)), l5] [] σ K := by
        intro c
        refine mjZ_y rfl rfl 5 _ _ _ _ ty ?_
        refine (And.intro rfl (And.intro rfl (And.intro vk (And.intro (Nat.le_of_ble_eq_true rfl) ?_))))
        refine go _ y.2.2.2.2.2.2 [] (List.append_nil _).symm kT (by rw [List.append_nil]) ?_
        rw [if_pos c]; rfl
      have lft : ¬ (i1 = 38 ∨ i1 = 40) → mjY mjPP (mjQQ Y) (d + 4) 104 40 [some (.ref 0), some (.int x1), some (.int x2), some (.int x3), some (.int (-1)), l5] [] σ K := by
        intro c
        refine go _ [] y.2.2.2.2.2.2 rfl rfl rfl ?_
        rw [if_neg c]; rfl
      refine mjZ_y rfl rfl 5 _ _ _ _ ty ?_
      refine (And.intro (Nat.le_of_ble_eq_true rfl) (And.intro (fun c => ?_) (fun c => ?_)))
      · exact rgt (Or.inl ((nn 38 (by decide)).mp c))
      · refine mjZ_y rfl rfl 3 _ _ _ _ ty ?_
        refine And.intro (fun b => ?_) (fun b => ?_)
        · exact lft (fun z => z.elim (fun t => c ((nn 38 (by decide)).mpr t)) (fun t => b ((nn 40 (by decide)).mpr t)))
        · exact rgt (Or.inr ((nn 40 (by decide)).mp (Decidable.of_not_not b)))
def puF (A : List AK) (w : List Int32) (i : Nat) (vs : List (List Int32)) : Option (List AK) := if kyI A w = none ∧ (i = 39 ∨ i = 40) then none else some (upA (orA A w 1).1 (orA A w 1).2 (esF (fun es => psE i es vs)))
theorem sl_drop : ∀ (ws : List (List Int32)) (n : Nat), sl (ws.drop n) ≤ sl ws := by
  intro ws
  induction ws with
  | nil => intro n; rw [List.drop_nil]; exact Nat.le_refl _
  | cons w r ih =>
    intro n
    cases n with
    | zero => exact Nat.le_refl _
    | succ n => show sl (r.drop n) ≤ w.length + sl r; have := ih n; omega
theorem sl_get {ws : List (List Int32)} {i : Nat} {w : List Int32} (h : ws[i]? = some w) : w.length + sl (ws.drop (i + 1)) ≤ sl ws := by
  have hi := (List.getElem?_eq_some_iff.mp h).1
  have e : ws.drop i = w :: ws.drop (i + 1) := by rw [List.drop_eq_getElem_cons hi, (List.getElem?_eq_some_iff.mp h).2]
  have := sl_drop ws i
  rw [e] at this
  exact this
set_option maxRecDepth 100000 in
theorem r_push {σ : mjS} {ws : List (List Int32)} {ks : List KR} {l : List Int32} (h : Wd σ ws ks l) (ty : mjTY σ) (i1 : Nat) (hi : i1 < 128) {x1 : Int32} (e1 : x1 = nI i1) {w : List Int32} (h1 : ws[1]? = some w) (ht : tT (strip ks) + sl ws ≤ 200000) (hn : eN (strip ks) + ws.length < 10000) (hl : ks.length < 4700) (hs : l.length + 132 + sz ws ≤ 420000) :
    mjY mjPP (mjQQ Y) (d + 6) 104 0 (mjL0 6 [.ref 0, .int x1]) [] σ (cmdK σ ws ks l i1 (puF (strip ks) w i1 (ws.drop 2))) := by
  have hlen := (List.getElem?_eq_some_iff.mp h1).1
  have nn : ∀ c : Nat, c < 128 → ((x1 = nI c) ↔ i1 = c) := fun c hc => by rw [e1, nI_eq (by omega) (by omega)]
  have hsl : w.length + sl (ws.drop 2) ≤ sl ws := sl_get h1
  have main : ∀ x2 : Int32, ¬ (kyI (strip ks) w = none ∧ (i1 = 39 ∨ i1 = 40)) → mjY mjPP (mjQQ Y) (d + 6) 104 16 [some (.ref 0), some (.int x1), some (.int x2), none, none, none] [] σ (cmdK σ ws ks l i1 (puF (strip ks) w i1 (ws.drop 2))) := by
    intro x2 ng
    have eo : puF (strip ks) w i1 (ws.drop 2) = some (upA (orA (strip ks) w 1).1 (orA (strip ks) w 1).2 (esF (fun es => psE i1 es (ws.drop 2)))) := if_neg ng
    rw [eo]
    have om := orA_m (strip ks) w 1
    refine mjZ_y rfl rfl 4 _ _ _ _ ty ?_
    refine (And.intro (Nat.le_of_ble_eq_true rfl) (And.intro rfl (And.intro (Nat.le_of_ble_eq_true rfl) (And.intro (Nat.le_of_ble_eq_true rfl) (mjY_mono ty (fun q_ u1 ty1 h_ => ?_) (w_makeOr h ty h1 (x := Int32.ofInt 1) rfl 1 (by omega) (by omega) hl))))))
    obtain ⟨P, y, Q, rfl, h2, f2, g1, g2⟩ := h_
    intro _
    refine mjZ_y rfl rfl 3 _ _ _ _ ty1 ?_
    refine (And.intro (Nat.le_of_ble_eq_true rfl) (And.intro (Nat.le_of_ble_eq_true rfl) ?_))
    refine c_push_loop _ i1 hi x1 e1 y.1 _ rfl (ws.length - 2) 2 u1 y _ _ _ (by omega) rfl rfl ty1 h2 (by rw [g1]; omega) (by rw [g1]; omega) (fun u y' x3 l4 l5 tu fu hy hu eu => ?_)
    have e2 : nI y.1 = nI y'.1 := by rw [hy]
    refine mjZ_y rfl rfl 3 _ _ _ _ tu ?_
    refine (And.intro (Nat.le_of_ble_eq_true rfl) (And.intro rfl (And.intro (Nat.le_of_ble_eq_true rfl) (And.intro (Nat.le_of_ble_eq_true rfl) (mjY_mono tu (fun q_ u3 ty3 h_ => ?_) (w_touch hu tu (x := y') (List.mem_append_right _ List.mem_cons_self) e2))))))
    obtain ⟨rfl, h3, f3⟩ := h_
    intro _
    refine mjZ_y rfl rfl 3 _ _ _ _ ty3 ?_
    refine (And.intro (Nat.le_of_ble_eq_true rfl) (And.intro rfl (And.intro (Nat.le_of_ble_eq_true rfl) (And.intro (Nat.le_of_ble_eq_true rfl) (mjY_mono ty3 (fun q_ u4 ty4 h_ => ?_) (w_noteAll h3 ty3 (by omega) i1 e1 hi hs))))))
    obtain ⟨rfl, h4, f4⟩ := h_
    intro _
    have vk : vp_in (nI y.1) 4700 := vp_in_nI h2.id (by decide)
    refine mjZ_y rfl rfl 7 _ _ _ _ ty4 ?_
    refine (And.intro rfl (And.intro rfl (And.intro vk (And.intro (Nat.le_of_ble_eq_true rfl) (And.intro rfl (And.intro (Nat.le_of_ble_eq_true rfl) (And.intro (Nat.le_of_ble_eq_true rfl) (mjY_mono ty4 (fun q_ u5 ty5 h_ => ?_) (w_number h4 ty4 _)))))))))
    obtain ⟨rfl, h5, f5⟩ := h_
    intro _
    refine mjZ_y rfl rfl 1 _ _ _ _ ty5 ?_
    refine And.intro rfl (And.intro rfl ?_)
    have fa : Fr cF cH σ u3 := (f2.k.tr fu.k).tr f3.t
    rw [ntA_fr fa] at h5
    refine ⟨rfl, (fa.tr f4.n).tr f5.c, _, h5, ?_⟩
    rw [← g1, ← g2]
    exact strip_up eu
  refine mjZ_y rfl rfl 3 _ _ _ _ ty ?_
  refine (And.intro (Nat.le_of_ble_eq_true rfl) (And.intro rfl (And.intro (Nat.le_of_ble_eq_true rfl) (And.intro (Nat.le_of_ble_eq_true rfl) (mjY_mono ty (fun q_ u1 ty1 h_ => ?_) (w_key h ty h1 (x := Int32.ofInt 1) rfl))))))
  obtain ⟨rfl, rfl⟩ := h_
  intro _
  refine mjZ_y rfl rfl 3 _ _ _ _ ty1 ?_
  refine (And.intro (Nat.le_of_ble_eq_true rfl) (And.intro (fun q => ?_) (fun q => ?_)))
  · exact main _ (fun z => (ky_ge h w).1.mp q z.1)
  · have q : kyI (strip ks) w = none := Decidable.of_not_not (fun z => q ((ky_ge h w).1.mpr z))
    have no : (i1 = 39 ∨ i1 = 40) → mjY mjPP (mjQQ Y) (d + 6) 104 12 [some (.ref 0), some (.int x1), some (.int (kyS ks w)), none, none, none] [] u1 (cmdK u1 ws ks l i1 (puF (strip ks) w i1 (ws.drop 2))) := by
      intro c
      have eo : puF (strip ks) w i1 (ws.drop 2) = none := if_pos ⟨q, c⟩
      rw [eo]
      refine mjZ_y rfl rfl 3 _ _ _ _ ty1 ?_
      refine (And.intro (Nat.le_of_ble_eq_true rfl) (And.intro rfl (And.intro (Nat.le_of_ble_eq_true rfl) (And.intro (Nat.le_of_ble_eq_true rfl) (mjY_mono ty1 (fun q_ u2 ty2 h_ => ?_) (w_number h ty1 _))))))
      obtain ⟨rfl, h2, f2⟩ := h_
      intro _
      refine mjZ_y rfl rfl 1 _ _ _ _ ty2 ?_
      refine And.intro rfl (And.intro rfl ?_)
      exact ⟨rfl, f2.c, ks, h2, rfl⟩
    refine mjZ_y rfl rfl 3 _ _ _ _ ty1 ?_
    refine And.intro (fun c => ?_) (fun c => ?_)
    · exact no (Or.inl ((nn 39 (by decide)).mp c))
    · refine mjZ_y rfl rfl 3 _ _ _ _ ty1 ?_
      refine And.intro (fun b => ?_) (fun b => ?_)
      · exact main _ (fun z => z.2.elim (fun t => c ((nn 39 (by decide)).mpr t)) (fun t => b ((nn 40 (by decide)).mpr t)))
      · exact no (Or.inr ((nn 40 (by decide)).mp (Decidable.of_not_not b)))
end LIST
