/-! SINTER, SUNION, SDIFF and their stores. -/
section RRECKON
variable {Y : Nat → MethodName × ByteArray} {d : Nat}
def rsE (ms : List (List Int32)) : List AE := ms.map (fun m => (m, [], 0))
def rrF (A : List AK) (w : List Int32) (ms : List (List Int32)) : Option (List AK) := if ms = [] then (match kyI A w with
    | none => none
    | some p => some (rmA A p)) else some (upA (orA A w 3).1 (orA A w 3).2 (fun a => (a.1, 3, 0, 0, [], rsE ms)))
theorem PIL.at {σ : mjS} {ms : List (List Int32)} (hp : PIL σ ms) (b1 : ms.length ≤ 10000) (b2 : sl ms ≤ 200000) {a : Nat} {m : List Int32} (hm : ms[a]? = some m) {x : Int32} (ex : x = nI a) : vp_in x 10000 ∧ ∃ b : Nat, σ.2.2.1 r_mAt x.toNatClampNeg = nI b ∧ σ.2.2.1 r_mLen x.toNatClampNeg = nI m.length ∧ b + m.length ≤ 200000 ∧ wd (σ.2.2.1 r_pile) b m.length = m := by
  obtain ⟨-, -, hq⟩ := hp
  obtain ⟨b, q1, q2, q3, q4⟩ := hq a m hm
  have ha := (List.getElem?_eq_some_iff.mp hm).1
  rw [ex, nI_clamp (by omega)]
  exact ⟨vp_in_nI (by omega) (by decide), b, q1, q2, by omega, q4⟩
set_option maxRecDepth 100000 in
theorem c_rt_loop (K : mjK) (x1 : Int32) {ws : List (List Int32)} {ks : List KR} {l : List Int32} (ms : List (List Int32)) (b1 : ms.length ≤ 10000) (b2 : sl ms ≤ 200000) : ∀ (m a : Nat) (σ : mjS) (x2 : Int32), a + m = ms.length → x2 = nI a → mjTY σ → Wd σ ws ks l → PIL σ ms → (∀ u, oO σ u → Wd u ws ks l → K none u) →
    mjY mjPP (mjQQ Y) (d + 3) 130 15 [some (.ref 0), some (.int x1), some (.int x2), none, none] [] σ K := by
  intro m
  induction m with
  | zero =>
    intro a σ x2 ha e2 ty h hp hK
    refine mjZ_y rfl rfl 4 _ _ _ _ ty ?_
    refine (And.intro rfl (And.intro (fun q => ?_) (fun q => ?_)))
    · refine mjZ_y rfl rfl 1 _ _ _ _ ty ?_
      refine And.intro rfl (And.intro rfl ?_)
      exact hK σ (oO.rf h.2.2.2.1) h
    · exact absurd (show σ.1 f_members ≤ x2 by rw [hp.1, e2]; exact nI_le (by omega) (by omega)) q
  | succ m ih =>
    intro a σ x2 ha e2 ty h hp hK
    obtain ⟨v2, b, q1, q2, q3, q4⟩ := hp.at b1 b2 (a := a) (m := ms[a]) (List.getElem?_eq_getElem (by omega)) e2
    refine mjZ_y rfl rfl 4 _ _ _ _ ty ?_
    refine (And.intro rfl (And.intro (fun q => ?_) (fun q => ?_)))
    · exact absurd (show σ.1 f_members ≤ x2 from q) (by rw [hp.1, e2]; exact nI_ge (by omega) (by omega))
    · refine mjZ_y rfl rfl 12 _ _ _ _ ty ?_
      refine (And.intro rfl (And.intro rfl (And.intro rfl (And.intro v2 (And.intro rfl (And.intro rfl (And.intro v2 (And.intro (Nat.le_of_ble_eq_true rfl) (And.intro rfl (And.intro (Nat.le_of_ble_eq_true rfl) (And.intro (Nat.le_of_ble_eq_true rfl) (mjY_mono ty (fun q_ u1 ty1 h_ => ?_) (w_word h ty r_pile b ms[a].length _ _ q1 q2 rfl q3 (by decide))))))))))))))
      obtain ⟨rfl, h1, f1⟩ := h_
      intro _
      refine mjZ_y rfl rfl 2 _ _ _ _ ty1 ?_
      exact ih (a + 1) u1 _ (by omega) (by rw [e2]; exact nI_1 a) ty1 h1 (hp.fr f1.1 (by decide) (by decide) (by decide) (by decide) (by decide)) (fun u fu hu => hK u (f1.tr fu) hu)
set_option maxRecDepth 100000 in
theorem c_rs_loop (K : mjK) (x1 : Int32) {ws : List (List Int32)} {l : List Int32} {P Q : List KR} (k : Nat) (x2 : Int32) (e2 : x2 = nI k) (ms : List (List Int32)) (b1 : ms.length ≤ 10000) (b2 : sl ms ≤ 200000) : ∀ (m a : Nat) (σ : mjS) (y : KR) (x3 : Int32) (l4 : Option Value), a + m = ms.length → x3 = nI a → y.1 = k → mjTY σ → Wd σ ws (P ++ y :: Q) l → PIL σ ms → tT (strip (P ++ y :: Q)) + sl (ms.drop a) ≤ 200000 → eN (strip (P ++ y :: Q)) + m < 10000 →
    (∀ u y' x3 l4, mjTY u → Fr kF kH σ u → y'.1 = k → Wd u ws (P ++ y' :: Q) l → st1 y' = esF (fun es => es ++ rsE (ms.drop a)) (st1 y) → mjY mjPP (mjQQ Y) (d + 4) 130 115 [some (.ref 0), some (.int x1), some (.int x2), some (.int x3), l4] [] u K) →
    mjY mjPP (mjQQ Y) (d + 4) 130 88 [some (.ref 0), some (.int x1), some (.int x2), some (.int x3), l4] [] σ K := by
  intro m
  induction m with
  | zero =>
    intro a σ y x3 l4 ha e3 hy ty h hp ht hn hK
    refine mjZ_y rfl rfl 4 _ _ _ _ ty ?_
    refine (And.intro rfl (And.intro (fun q => ?_) (fun q => ?_)))
    · refine hK σ y _ _ ty Fr.rf hy h ?_
      rw [List.drop_of_length_le (by omega)]
      show _ = (_, _, _, _, _, y.2.2.2.2.2.2.map (fun z => z.2) ++ [])
      rw [List.append_nil]; rfl
    · exact absurd (show σ.1 f_members ≤ x3 by rw [hp.1, e3]; exact nI_le (by omega) (by omega)) q
  | succ m ih =>
    intro a σ y x3 l4 ha e3 hy ty h hp ht hn hK
    have hal : a < ms.length := by omega
    have ed : ms.drop a = ms[a] :: ms.drop (a + 1) := List.drop_eq_getElem_cons hal
    have hm : ms[a]? = some ms[a] := List.getElem?_eq_getElem hal
    generalize ms[a] = v at ed hm
    rw [ed] at ht hK
    have ht : tT (strip (P ++ y :: Q)) + (v.length + sl (ms.drop (a + 1))) ≤ 200000 := ht
    have e2y : x2 = nI y.1 := by rw [hy]; exact e2
    obtain ⟨kT, kHd, kM, vk⟩ := W_tail h e2y
    refine mjZ_y rfl rfl 4 _ _ _ _ ty ?_
    refine (And.intro rfl (And.intro (fun q => ?_) (fun q => ?_)))
    · exact absurd (show σ.1 f_members ≤ x3 from q) (by rw [hp.1, e3]; exact nI_ge (by omega) (by omega))
    · refine mjZ_y rfl rfl 7 _ _ _ _ ty ?_
      refine (And.intro rfl (And.intro rfl (And.intro vk (And.intro (Nat.le_of_ble_eq_true rfl) (And.intro rfl (And.intro (Nat.le_of_ble_eq_true rfl) (And.intro (Nat.le_of_ble_eq_true rfl) (mjY_mono ty (fun q_ u1 ty1 h_ => ?_) (w_insert h ty (E1 := y.2.2.2.2.2.2) (E2 := []) (List.append_nil _).symm (by omega) e2y kT)))))))))
      obtain ⟨e, he, rfl, h2, f2⟩ := h_
      intro _
      have hp1 := hp.fr f2 (by decide) (by decide) (by decide) (by decide) (by decide)
      obtain ⟨v3, b, q1, q2, q3, q4⟩ := hp1.at b1 b2 hm e3
      have t1 : tT (strip (P ++ withE y (y.2.2.2.2.2.2 ++ [(e, [], [], 0)]) :: Q)) = tT (strip (P ++ y :: Q)) := by
        rw [tT_at, tT_at, tT_1, tT_1]
        show _ + (y.2.1.length + y.2.2.2.2.2.1.length + eT ((y.2.2.2.2.2.2 ++ ([(e, [], [], 0)] : List ER)).map (fun z => z.2))) + _ = _ + (y.2.1.length + y.2.2.2.2.2.1.length + eT (y.2.2.2.2.2.2.map (fun z => z.2))) + _
        rw [List.map_append, eT_app]
        show _ + (_ + (_ + (0 + 0 + 0))) + _ = _
        omega
      refine mjZ_y rfl rfl 14 _ _ _ _ ty1 ?_
      refine (And.intro (Nat.le_of_ble_eq_true rfl) (And.intro rfl (And.intro rfl (And.intro rfl (And.intro v3 (And.intro rfl (And.intro rfl (And.intro v3 (And.intro (Nat.le_of_ble_eq_true rfl) (And.intro rfl (And.intro (Nat.le_of_ble_eq_true rfl) (And.intro (Nat.le_of_ble_eq_true rfl) (mjY_mono ty1 (fun q_ u2 ty2 h_ => ?_) (w_name h2 ty1 (x := withE y (y.2.2.2.2.2.2 ++ [(e, [], [], 0)])) (y := (e, [], [], 0)) (E1 := y.2.2.2.2.2.2) (E2 := []) rfl r_pile b v.length rfl (by decide) q3 (by decide) (by omega) (by omega) rfl q1 q2))))))))))))))
      obtain ⟨rfl, h3, f3⟩ := h_
      intro _
      rw [q4] at h3
      refine mjZ_y rfl rfl 2 _ _ _ _ ty2 ?_
      have h3 : Wd u2 ws (P ++ withE y (y.2.2.2.2.2.2 ++ [(e, v, [], 0)]) :: Q) l := h3
      have t2 : tT (strip (P ++ withE y (y.2.2.2.2.2.2 ++ [(e, v, [], 0)]) :: Q)) = tT (strip (P ++ y :: Q)) + v.length := by
        rw [tT_at, tT_at, tT_1, tT_1]
        show _ + (y.2.1.length + y.2.2.2.2.2.1.length + eT ((y.2.2.2.2.2.2 ++ ([(e, v, [], 0)] : List ER)).map (fun z => z.2))) + _ = _ + (y.2.1.length + y.2.2.2.2.2.1.length + eT (y.2.2.2.2.2.2.map (fun z => z.2))) + _ + _
        rw [List.map_append, eT_app]
        show _ + (_ + (_ + (v.length + 0 + 0))) + _ = _
        omega
      have n2 : eN (strip (P ++ withE y (y.2.2.2.2.2.2 ++ [(e, v, [], 0)]) :: Q)) = eN (strip (P ++ y :: Q)) + 1 := by
        rw [eN_at, eN_at, eN_1, eN_1]
        show _ + ((y.2.2.2.2.2.2 ++ ([(e, v, [], 0)] : List ER)).map (fun z => z.2)).length + _ = _ + (y.2.2.2.2.2.2.map (fun z => z.2)).length + _ + 1
        rw [List.length_map, List.length_map, List.length_append]
        show _ + (_ + 1) + _ = _
        omega
      refine ih (a + 1) u2 (withE y (y.2.2.2.2.2.2 ++ [(e, v, [], 0)])) _ _ (by omega) (by rw [e3]; exact nI_1 a) hy ty2 h3 (hp1.fr f3 (by decide) (by decide) (by decide) (by decide) (by decide)) (by omega) (by omega) (fun u y' x3 l4 tu fu hy' hu eu => hK u y' x3 l4 tu ((f2.tr f3).tr fu) hy' hu ?_)
      rw [eu]
      show (_, _, _, _, _, (y.2.2.2.2.2.2 ++ ([(e, v, [], 0)] : List ER)).map (fun z => z.2) ++ rsE (ms.drop (a + 1))) = (_, _, _, _, _, y.2.2.2.2.2.2.map (fun z => z.2) ++ (v, [], 0) :: rsE (ms.drop (a + 1)))
      rw [List.map_append, List.append_assoc]; rfl
set_option maxRecDepth 100000 in
theorem r_reckon {σ : mjS} {ws : List (List Int32)} {ks : List KR} {l : List Int32} (h : Wd σ ws ks l) (ty : mjTY σ) (i1 : Nat) (hi : i1 < 74) (hi0 : 71 ≤ i1) {x1 : Int32} (e1 : x1 = nI i1) (hw : 2 ≤ ws.length) (b1 : (rkM (i1 - 71) (strip ks) ws 1).length ≤ 10000) (b2 : sl (rkM (i1 - 71) (strip ks) ws 1) ≤ 200000) :
    mjY mjPP (mjQQ Y) (d + 6) 130 0 (mjL0 5 [.ref 0, .int x1]) [] σ (cmdK σ ws ks l i1 none) := by
  have e71 : x1 - Int32.ofInt 71 = nI (i1 - 71) := by rw [e1]; exact pk_sub (b := 71) (by omega)
  refine mjZ_y rfl rfl 3 _ _ _ _ ty ?_
  refine And.intro (fun q => ?_) (fun q => ?_)
  · exact absurd (show nI 73 < x1 from q) (by rw [e1]; exact Int32.not_lt.mpr (nI_le (by omega) (by omega)))
  · refine mjZ_y rfl rfl 6 _ _ _ _ ty ?_
    refine (And.intro (Nat.le_of_ble_eq_true rfl) (And.intro rfl (And.intro (Nat.le_of_ble_eq_true rfl) (And.intro (Nat.le_of_ble_eq_true rfl) (mjY_mono ty (fun q_ u1 ty1 h_ => ?_) (w_reckon h ty (i1 - 71) 1 (by omega) hw e71 rfl b1 b2))))))
    obtain ⟨rfl, f1, h1, hp⟩ := h_
    intro _
    refine mjZ_y rfl rfl 4 _ _ _ _ ty1 ?_
    refine (And.intro rfl (And.intro (Nat.le_of_ble_eq_true rfl) (And.intro rfl (And.intro (Nat.le_of_ble_eq_true rfl) (And.intro (Nat.le_of_ble_eq_true rfl) (mjY_mono ty1 (fun q_ u2 ty2 h_ => ?_) (w_row h1 ty1 _)))))))
    obtain ⟨rfl, h2, f2⟩ := h_
    intro _
    refine mjZ_y rfl rfl 2 _ _ _ _ ty2 ?_
    refine (And.intro (Nat.le_of_ble_eq_true rfl) ?_)
    exact c_rt_loop _ x1 (rkM (i1 - 71) (strip ks) ws 1) b1 b2 _ 0 u2 _ (Nat.zero_add _) rfl ty2 h2 (hp.fr f2.1 (by decide) (by decide) (by decide) (by decide) (by decide)) (fun u fu hu => ⟨rfl, ((f1.up (by decide) (by decide)).tr f2.c).tr fu.c, ks, hu, rfl⟩)
set_option maxRecDepth 100000 in
theorem r_reckonS {σ : mjS} {ws : List (List Int32)} {ks : List KR} {l : List Int32} (h : Wd σ ws ks l) (ty : mjTY σ) (i1 : Nat) (hi : i1 < 77) (hi0 : 74 ≤ i1) {x1 : Int32} (e1 : x1 = nI i1) {w : List Int32} (h1 : ws[1]? = some w) (hw : 3 ≤ ws.length) (b1 : eN (strip ks) + (rkM (i1 - 74) (strip ks) ws 2).length < 10000) (b2 : tT (strip ks) + w.length + sl (rkM (i1 - 74) (strip ks) ws 2) ≤ 200000) (hk : ks.length < 4700) (hs : l.length + 132 + sz ws ≤ 420000) :
    mjY mjPP (mjQQ Y) (d + 6) 130 0 (mjL0 5 [.ref 0, .int x1]) [] σ (cmdK σ ws ks l i1 (rrF (strip ks) w (rkM (i1 - 74) (strip ks) ws 2))) := by
  have e74 : x1 - Int32.ofInt 74 = nI (i1 - 74) := by rw [e1]; exact pk_sub (b := 74) (by omega)
  generalize hms : rkM (i1 - 74) (strip ks) ws 2 = ms at b1 b2 ⊢
  have b1' : (rkM (i1 - 74) (strip ks) ws 2).length ≤ 10000 := by rw [hms]; omega
  have b2' : sl (rkM (i1 - 74) (strip ks) ws 2) ≤ 200000 := by rw [hms]; omega
  refine mjZ_y rfl rfl 3 _ _ _ _ ty ?_
  refine And.intro (fun q => ?_) (fun q => ?_)
  · refine mjZ_y rfl rfl 6 _ _ _ _ ty ?_
    refine (And.intro (Nat.le_of_ble_eq_true rfl) (And.intro rfl (And.intro (Nat.le_of_ble_eq_true rfl) (And.intro (Nat.le_of_ble_eq_true rfl) (mjY_mono ty (fun q_ u1 ty1 h_ => ?_) (w_reckon h ty (i1 - 74) 2 (by omega) hw e74 rfl b1' b2'))))))
    obtain ⟨rfl, f1, h2, hp⟩ := h_
    intro _
    rw [hms] at hp
    refine mjZ_y rfl rfl 3 _ _ _ _ ty1 ?_
    refine (And.intro (Nat.le_of_ble_eq_true rfl) (And.intro rfl (And.intro (Nat.le_of_ble_eq_true rfl) (And.intro (Nat.le_of_ble_eq_true rfl) (mjY_mono ty1 (fun q_ u2 ty2 h_ => ?_) (w_key h2 ty1 h1 (x := Int32.ofInt 1) rfl))))))
    obtain ⟨rfl, rfl⟩ := h_
    intro _
    refine mjZ_y rfl rfl 6 _ _ _ _ ty2 ?_
    refine (And.intro (Nat.le_of_ble_eq_true rfl) (And.intro rfl (And.intro (Nat.le_of_ble_eq_true rfl) (And.intro rfl (And.intro (Nat.le_of_ble_eq_true rfl) (And.intro (Nat.le_of_ble_eq_true rfl) (mjY_mono ty2 (fun q_ u3 ty3 h_ => ?_) (w_number h2 ty2 _))))))))
    obtain ⟨rfl, h3, f3⟩ := h_
    intro _
    have hp3 := hp.fr f3.1 (by decide) (by decide) (by decide) (by decide) (by decide)
    have fa : Fr cF cH σ u3 := (f1.up (by decide) (by decide)).tr f3.c
    have mem : ¬ ms = [] → mjY mjPP (mjQQ Y) (d + 6) 130 65 [some (.ref 0), some (.int x1), some (.int (kyS ks w)), none, none] [] u3 (cmdK σ ws ks l i1 (rrF (strip ks) w ms)) := by
      intro nm
      have eo : rrF (strip ks) w ms = some (upA (orA (strip ks) w 3).1 (orA (strip ks) w 3).2 (fun a => (a.1, 3, 0, 0, [], rsE ms))) := if_neg nm
      rw [eo]
      have fin : ∀ (P Q : List KR) (y : KR) (u : mjS) (x2 : Int32), mjTY u → Fr kF kH u3 u → Wd u ws (P ++ y :: Q) l → x2 = nI y.1 → y.2.2.2.2.2.1 = [] → y.2.2.2.2.2.2 = [] → tT (strip (P ++ y :: Q)) ≤ tT (strip ks) + w.length → eN (strip (P ++ y :: Q)) ≤ eN (strip ks) → (∀ b, upA (strip (P ++ y :: Q)) P.length (fun a => (a.1, 3, 0, 0, [], b)) = upA (orA (strip ks) w 3).1 (orA (strip ks) w 3).2 (fun a => (a.1, 3, 0, 0, [], b))) → mjY mjPP (mjQQ Y) (d + 6) 130 76 [some (.ref 0), some (.int x1), some (.int x2), none, none] [] u (cmdK σ ws ks l i1 (some (upA (orA (strip ks) w 3).1 (orA (strip ks) w 3).2 (fun a => (a.1, 3, 0, 0, [], rsE ms))))) := by
        intro P Q y u x2 tu fu hu e2 ye1 ye2 c1 c2 c3
        have hy := hu.id
        have v2 : vp_in x2 4700 := by rw [e2]; exact vp_in_nI hy (by decide)
        have k2 : x2.toNatClampNeg = y.1 := by rw [e2]; exact nI_clamp (by omega)
        refine mjZ_y rfl rfl 12 _ _ _ _ tu ?_
        refine (And.intro rfl (And.intro rfl (And.intro v2 (fun tu' => (And.intro rfl (And.intro (Or.inr ⟨rfl, Or.inl rfl⟩) (And.intro v2 (fun tu'' => (And.intro (Nat.le_of_ble_eq_true rfl) ?_)))))))))
        have h4 := hu.sort k2 3
        have h5 := h4.timed (c := x2.toNatClampNeg) k2 0
        have hp5 := (hp3.fr (fu.tr (Fr.a (h := r_kSort) (i := x2.toNatClampNeg) (v := 3) (by decide))) (by decide) (by decide) (by decide) (by decide) (by decide)).fr (Fr.a (hs := kH) (fs := kF) (h := r_kTimed) (i := x2.toNatClampNeg) (v := 0) (by decide)) (by decide) (by decide) (by decide) (by decide) (by decide)
        have t4 : tT (strip (P ++ (y.1, y.2.1, 3, 0, y.2.2.2.2.1, y.2.2.2.2.2.1, y.2.2.2.2.2.2) :: Q)) = tT (strip (P ++ y :: Q)) := by rw [tT_at, tT_at]; rfl
        have n4 : eN (strip (P ++ (y.1, y.2.1, 3, 0, y.2.2.2.2.1, y.2.2.2.2.2.1, y.2.2.2.2.2.2) :: Q)) = eN (strip (P ++ y :: Q)) := by rw [eN_at, eN_at]; rfl
        refine c_rs_loop _ x1 y.1 x2 e2 ms (by omega) (by omega) ms.length 0 _ (y.1, y.2.1, 3, 0, y.2.2.2.2.1, y.2.2.2.2.2.1, y.2.2.2.2.2.2) _ _ (Nat.zero_add _) rfl rfl tu'' h5 hp5 (by rw [t4, List.drop_zero]; omega) (by rw [n4]; omega) (fun u7 y' x3 l4 t7 f7 hy' h7 eu => ?_)
        refine mjZ_y rfl rfl 3 _ _ _ _ t7 ?_
        refine (And.intro (Nat.le_of_ble_eq_true rfl) (And.intro rfl (And.intro (Nat.le_of_ble_eq_true rfl) (And.intro (Nat.le_of_ble_eq_true rfl) (mjY_mono t7 (fun q_ u8 ty8 h_ => ?_) (w_touch h7 t7 (x := y') (List.mem_append_right _ List.mem_cons_self) (by rw [hy']; exact e2)))))))
        obtain ⟨rfl, h8, f8⟩ := h_
        intro _
        refine mjZ_y rfl rfl 3 _ _ _ _ ty8 ?_
        refine (And.intro (Nat.le_of_ble_eq_true rfl) (And.intro rfl (And.intro (Nat.le_of_ble_eq_true rfl) (And.intro (Nat.le_of_ble_eq_true rfl) (mjY_mono ty8 (fun q_ u9 ty9 h_ => ?_) (w_noteAll h8 ty8 (by omega) i1 e1 (by omega) hs))))))
        obtain ⟨rfl, h9, f9⟩ := h_
        intro _
        refine mjZ_y rfl rfl 1 _ _ _ _ ty9 ?_
        refine And.intro rfl (And.intro rfl ?_)
        have fb : Fr cF cH σ u8 := (((fa.tr fu.k).tr (Fr.a (h := r_kSort) (i := x2.toNatClampNeg) (v := 3) (by decide))).tr (Fr.a (h := r_kTimed) (i := x2.toNatClampNeg) (v := 0) (by decide))).tr (f7.k.tr f8.t)
        rw [ntA_fr fb] at h9
        refine ⟨rfl, fb.tr f9.n, _, h9, ?_⟩
        rw [← c3 (rsE ms)]
        refine strip_up ?_
        rw [eu, List.drop_zero]
        show (y.2.1, 3, 0, tmN 0 y.2.2.2.2.1, y.2.2.2.2.2.1, y.2.2.2.2.2.2.map (fun z => z.2) ++ rsE ms) = _
        rw [ye1, ye2]; rfl
      rcases ky_cases ks w with ⟨g1, g2⟩ | ⟨P, y, Q, g0, g1, g2, -⟩
      · refine mjZ_y rfl rfl 2 _ _ _ _ ty3 ?_
        refine And.intro (fun c => ?_) (fun c => ?_)
        · refine mjZ_y rfl rfl 4 _ _ _ _ ty3 ?_
          refine (And.intro (Nat.le_of_ble_eq_true rfl) (And.intro rfl (And.intro (Nat.le_of_ble_eq_true rfl) (And.intro (Nat.le_of_ble_eq_true rfl) (mjY_mono ty3 (fun q_ u4 ty4 h_ => ?_) (w_makeKey h3 ty3 h1 (x := Int32.ofInt 1) rfl 3 (by omega) (by omega) hk))))))
          obtain ⟨P, y, Q, rfl, h4, f4, k1, k2, k3⟩ := h_
          intro _
          refine mjZ_y rfl rfl 1 _ _ _ _ ty4 ?_
          refine (And.intro (Nat.le_of_ble_eq_true rfl) ?_)
          have tb := inA_tT (strip ks) (plF (anm (strip ks)) w) (w, 3, 0, 0, [], [])
          rw [← k1] at tb
          have z1 : y.2.2.2.2.2.1 = [] := congrArg (fun a : AK => a.2.2.2.2.1) k3
          have z2 : y.2.2.2.2.2.2 = [] := List.map_eq_nil_iff.mp (congrArg (fun a : AK => a.2.2.2.2.2) k3)
          refine fin P Q y u4 _ ty4 f4 h4 rfl z1 z2 ?_ ?_ (fun b => ?_)
          · rw [tb.1]; show _ + (w.length + 0 + 0 + 0) ≤ _; omega
          · rw [tb.2.2]; show _ + (0 + 0) ≤ _; omega
          · rw [orA_none g1, k1, k2]
        · exact absurd (show kyS ks w < 0 from lt_m1 g2) c
      · subst g0
        have hid := h3.id
        refine mjZ_y rfl rfl 2 _ _ _ _ ty3 ?_
        refine And.intro (fun c => ?_) (fun c => ?_)
        · exact absurd (show kyS (P ++ y :: Q) w < 0 from c) (lt_nI (by omega) g2)
        · refine mjZ_y rfl rfl 3 _ _ _ _ ty3 ?_
          refine (And.intro (Nat.le_of_ble_eq_true rfl) (And.intro rfl (And.intro (Nat.le_of_ble_eq_true rfl) (And.intro (Nat.le_of_ble_eq_true rfl) (mjY_mono ty3 (fun q_ u4 ty4 h_ => ?_) (w_empty h3 ty3 g2))))))
          obtain ⟨rfl, h4, f4⟩ := h_
          intro _
          refine mjZ_y rfl rfl 1 _ _ _ _ ty4 ?_
          refine fin P Q (bare y y.2.2.1) u4 _ ty4 f4 h4 g2 rfl rfl ?_ ?_ (fun b => ?_)
          · rw [tT_at, tT_at, tT_1, tT_1]
            show _ + (y.2.1.length + 0 + 0) + _ ≤ _ + (y.2.1.length + _ + _) + _ + _
            omega
          · rw [eN_at, eN_at, eN_1, eN_1]
            show _ + 0 + _ ≤ _; omega
          · rw [orA_some g1]
            have s1 : strip (P ++ bare y y.2.2.1 :: Q) = upA (strip (P ++ y :: Q)) P.length (fun a => (a.1, a.2.1, a.2.2.1, a.2.2.2.1, [], [])) := strip_up rfl
            rw [s1, upA_upA]
    have em : u3.1 f_members = nI ms.length := hp3.1
    refine mjZ_y rfl rfl 3 _ _ _ _ ty3 ?_
    refine (And.intro rfl (And.intro (fun c => ?_) (fun c => ?_)))
    · have nm : ¬ ms = [] := fun z => c (show u3.1 f_members = 0 by rw [em, z]; rfl)
      refine mjZ_y rfl rfl 3 _ _ _ _ ty3 ?_
      refine (And.intro rfl (And.intro (fun e => ?_) (fun e => ?_)))
      · exact mem nm
      · exact absurd (show u3.1 f_members = 0 from Decidable.of_not_not e) c
    · have c : u3.1 f_members = nI 0 := Decidable.of_not_not c
      have nm : ms = [] := by
        rw [em, nI_eq (by omega) (by decide)] at c
        exact List.length_eq_zero_iff.mp c
      have gone : ∀ (P Q : List KR) (y : KR), ks = P ++ y :: Q → kyI (strip ks) w = some P.length → kyS ks w = nI y.1 → mjY mjPP (mjQQ Y) (d + 6) 130 58 [some (.ref 0), some (.int x1), some (.int (kyS ks w)), none, none] [] u3 (cmdK σ ws ks l i1 (rrF (strip ks) w ms)) := by
        intro P Q y g0 g1 g2
        have eo : rrF (strip ks) w ms = some (rmA (strip ks) P.length) := by unfold rrF; rw [if_pos nm, g1]
        rw [eo]
        subst g0
        refine mjZ_y rfl rfl 3 _ _ _ _ ty3 ?_
        refine (And.intro (Nat.le_of_ble_eq_true rfl) (And.intro rfl (And.intro (Nat.le_of_ble_eq_true rfl) (And.intro (Nat.le_of_ble_eq_true rfl) (mjY_mono ty3 (fun q_ u4 ty4 h_ => ?_) (w_goneKey h3 ty3 g2))))))
        obtain ⟨rfl, h4, f4⟩ := h_
        intro _
        refine mjZ_y rfl rfl 3 _ _ _ _ ty4 ?_
        refine (And.intro (Nat.le_of_ble_eq_true rfl) (And.intro rfl (And.intro (Nat.le_of_ble_eq_true rfl) (And.intro (Nat.le_of_ble_eq_true rfl) (mjY_mono ty4 (fun q_ u5 ty5 h_ => ?_) (w_noteAll h4 ty4 (by omega) i1 e1 (by omega) hs))))))
        obtain ⟨rfl, h5, f5⟩ := h_
        intro _
        refine mjZ_y rfl rfl 1 _ _ _ _ ty5 ?_
        refine And.intro rfl (And.intro rfl ?_)
        rw [ntA_fr (fa.tr f4.k1)] at h5
        exact ⟨rfl, (fa.tr f4.k1).tr f5.n, _, h5, strip_rm⟩
      rcases ky_cases ks w with ⟨g1, g2⟩ | ⟨P, y, Q, g0, g1, g2, -⟩
      · refine mjZ_y rfl rfl 2 _ _ _ _ ty3 ?_
        refine And.intro (fun e => ?_) (fun e => ?_)
        · exact absurd (show (0 : Int32) ≤ kyS ks w from e) (ge_m1 g2)
        · refine mjZ_y rfl rfl 1 _ _ _ _ ty3 ?_
          refine And.intro rfl (And.intro rfl ?_)
          have eo : rrF (strip ks) w ms = none := by unfold rrF; rw [if_pos nm, g1]
          rw [eo]
          exact ⟨rfl, fa, ks, h3, rfl⟩
      · have hid : y.1 < 4700 := by have h3 := h3; rw [g0] at h3; exact h3.id
        refine mjZ_y rfl rfl 2 _ _ _ _ ty3 ?_
        refine And.intro (fun e => ?_) (fun e => ?_)
        · refine mjZ_y rfl rfl 3 _ _ _ _ ty3 ?_
          refine (And.intro rfl (And.intro (fun z => ?_) (fun z => ?_)))
          · exact absurd c z
          · exact gone P Q y g0 g1 g2
        · exact absurd (show (0 : Int32) ≤ kyS ks w from ge_nI (by omega) g2) e
  · exact absurd (show nI 73 < x1 by rw [e1]; exact Int32.not_le.mp (nI_ge (by omega) (by omega))) q
end RRECKON
