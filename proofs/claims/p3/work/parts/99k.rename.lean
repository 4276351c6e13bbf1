/-! RENAME and RENAMENX. -/
section RENAME
variable {Y : Nat → MethodName × ByteArray} {d : Nat} {σ : mjS}
/-- what place needs of the store -/
def PLc (σ : mjS) (hs : Nat) (ks : List KR) : Prop := hs ≤ 300000 ∧ σ.1 f_keys = nI ks.length ∧ (∀ (i : Nat) (x : KR), ks[i]? = some x → σ.2.2.1 r_order i = nI x.1) ∧ (∀ x ∈ ks, KOK σ hs x) ∧ ks.length ≤ 4700
set_option maxRecDepth 100000 in
theorem c_placeL_loop (K : mjK) {hs : Nat} {ks : List KR} (hks : PLc σ hs ks) {ws : List (List Int32)} (har : AR σ ws) (i : Nat) (w : List Int32) (hw : ws[i]? = some w) (ty : mjTY σ) : ∀ (f lo hi : Nat) (x2 x3 : Int32) (l4 l5 : Option Value), x2 = nI lo → x3 = nI hi → hi - lo < f → lo ≤ hi → hi ≤ ks.length → K (some (.int (nI (bs (nms ks) w f lo hi)))) σ →
    mjY mjPP (mjQQ Y) (d + 1) 10 5 [some (.ref 0), some (.int (nI i)), some (.int x2), some (.int x3), l4, l5] [] σ K := by
  have hl := hks.2.2.2.2
  have hi0 : i < ws.length := (List.getElem?_eq_some_iff.mp hw).1
  have h1024 := har.2.1
  intro f
  induction f with
  | zero => intro lo hi x2 x3 l4 l5 _ _ h; omega
  | succ f ih =>
    intro lo hi x2 x3 l4 l5 e2 e3 hf h1 h2 hK
    refine mjZ_y rfl rfl 3 _ _ _ _ ty ?_
    refine And.intro (fun c => ?_) (fun c => ?_)
    · have c : nI hi ≤ nI lo := by rw [← e2, ← e3]; exact c
      have c2 : hi ≤ lo := (nI_leI (by omega) (by omega)).mp c
      refine mjZ_re rfl rfl 2 ty ?_
      refine And.intro rfl (And.intro (Or.inl rfl) ?_)
      have e : bs (nms ks) w (f + 1) lo hi = lo := if_neg (by omega)
      rw [e] at hK
      rw [e2]; exact hK
    · have c2 : lo < hi := by
        refine Nat.lt_of_not_le (fun q => c ?_)
        show x3 ≤ x2
        rw [e2, e3]; exact nI_le q (by omega)
      have em : (x2 + x3) / Int32.ofInt 2 = nI ((lo + hi) / 2) := by rw [e2, e3, nI_add]; exact pk_div (d := 2) (by omega) (by decide) (by decide)
      have hm : (lo + hi) / 2 < ks.length := by omega
      have hx : ks[(lo + hi) / 2]? = some ks[(lo + hi) / 2] := List.getElem?_eq_getElem hm
      obtain ⟨hh, -, hord, hkok, -⟩ := hks
      have ho := hord _ _ hx
      have hk := hkok _ (List.mem_of_getElem? hx)
      have en := nms_get hx
      generalize ks[(lo + hi) / 2] = xr at hx ho hk en
      refine mjZ_re rfl rfl 33 ty ?_
      refine And.intro (by decide) (And.intro (Nat.le_of_ble_eq_true rfl) (And.intro rfl (And.intro rfl ?_)))
      rw [em]
      have i1 : (nI ((lo + hi) / 2)).toNatClampNeg = (lo + hi) / 2 := nI_clamp (by omega)
      have i2 : (nI i).toNatClampNeg = i := nI_clamp (by omega)
      refine And.intro (vp_in_nI (by show (lo + hi) / 2 < 4700; omega) (by decide)) (And.intro (Nat.le_of_ble_eq_true rfl) ?_)
      have ev : σ.2.2.1 r_order (nI ((lo + hi) / 2)).toNatClampNeg = nI xr.1 := by rw [i1]; exact ho
      have i3 : (σ.2.2.1 r_order (nI ((lo + hi) / 2)).toNatClampNeg).toNatClampNeg = xr.1 := by rw [ev]; exact nI_clamp (by have := hk.1; omega)
      have vk : vp_in (σ.2.2.1 r_order (nI ((lo + hi) / 2)).toNatClampNeg) 4700 := by rw [ev]; exact vp_in_nI hk.1 (by decide)
      have va : vp_in (nI i) 1100 := vp_in_nI (by omega) (by decide)
      refine And.intro rfl (And.intro rfl (And.intro rfl (And.intro vk (And.intro rfl (And.intro rfl (And.intro vk (And.intro rfl (And.intro rfl (And.intro rfl (And.intro va (And.intro rfl (And.intro rfl (And.intro va ?_)))))))))))))
      have hc := c_cmpR (Y := Y) (d := d) ty hk.2.1 hh har hw
      rw [← i3, ← i2] at hc
      refine And.intro (Nat.le_of_ble_eq_true rfl) (And.intro (Nat.le_of_ble_eq_true rfl) (And.intro (Nat.le_of_ble_eq_true rfl) (mjY_mono ty (fun v u1 ty1 h1 => ?_) hc)))
      obtain ⟨rfl, r, rfl, hr⟩ := h1
      intro _
      have r0 : (0 : Int32).toInt = 0 := by decide
      rw [← en] at hr
      have eb : bs (nms ks) w (f + 1) lo hi = (if cmpW ((nms ks).getD ((lo + hi) / 2) []) w < 0 then bs (nms ks) w f ((lo + hi) / 2 + 1) hi else bs (nms ks) w f lo ((lo + hi) / 2)) := if_pos c2
      rw [eb] at hK
      refine And.intro (fun cg => ?_) (fun cg => ?_)
      · have cg : (0 : Int32) ≤ r := cg
        have cg2 := Int32.le_iff_toInt_le.mp cg
        rw [r0, hr] at cg2
        rw [if_neg (by omega)] at hK
        refine mjZ_re rfl rfl 3 ty ?_
        refine And.intro (Nat.le_of_ble_eq_true rfl) ?_
        exact ih lo ((lo + hi) / 2) _ _ _ _ e2 rfl (by omega) (by omega) (by omega) hK
      · have cg2 : cmpW ((nms ks).getD ((lo + hi) / 2) []) w < 0 := by
          refine Int.lt_of_not_ge (fun q => cg ?_)
          show (0 : Int32) ≤ r
          rw [Int32.le_iff_toInt_le, r0, hr]; exact q
        rw [if_pos cg2] at hK
        refine mjZ_re rfl rfl 6 ty ?_
        refine And.intro (Nat.le_of_ble_eq_true rfl) ?_
        exact ih ((lo + hi) / 2 + 1) hi _ _ _ _ (nI_1 _) e3 (by omega) (by omega) (by omega) hK
set_option maxRecDepth 100000 in
theorem c_placeL {hs : Nat} {ks : List KR} (hks : PLc σ hs ks) {ws : List (List Int32)} (har : AR σ ws) (i : Nat) (w : List Int32) (hw : ws[i]? = some w) (ty : mjTY σ) : mjY mjPP (mjQQ Y) (d + 1) 10 0 (mjL0 6 [.ref 0, .int (nI i)]) [] σ (fun r u => r = some (.int (nI (plF (nms ks) w))) ∧ u = σ) := by
  have hn : (nms ks).length = ks.length := by unfold nms; rw [List.length_map]
  refine mjZ_y rfl rfl 5 _ _ _ _ ty ?_
  refine And.intro (Nat.le_of_ble_eq_true rfl) (And.intro rfl (And.intro (Nat.le_of_ble_eq_true rfl) ?_))
  have e3 : σ.1 f_keys = nI ks.length := hks.2.1
  refine c_placeL_loop _ hks har i w hw ty (ks.length + 1) 0 ks.length _ _ _ _ rfl e3 (by omega) (by omega) (by omega) ?_
  unfold plF; rw [hn]; exact ⟨rfl, rfl⟩
end RENAME
section RENAME2
variable {Y : Nat → MethodName × ByteArray} {d : Nat}
/-- the keys in another order -/
theorem ks_perm {σ u : mjS} {hs : Nat} {ks ks' : List KR} {fk fe : List Nat} (h : KS σ hs ks fk fe) (hp : ks'.Perm ks) (f : Fr [f_keys] [r_order] σ u) (ek : u.1 f_keys = nI ks.length) (ho : ∀ (i : Nat) (x : KR), ks'[i]? = some x → u.2.2.1 r_order i = nI x.1) : KS u hs ks' fk fe := by
  obtain ⟨a1, a2, a3, a4, a5, a6, a7, a8, a9, a10, a11, a12, a13, a14, a15, a16, a17⟩ := h
  have row : ∀ g, g ∉ [r_order] → u.2.2.1 g = σ.2.2.1 g := fun g hg => (f.2.2 g hg).1
  have aK : ∀ j, AgK σ u j := fun j => ⟨fun g hg => by rw [row g ((by decide : ∀ g ∈ kRows, g ∉ [r_order]) g hg)], by rw [(f.2.2 r_kTime (by decide)).2]⟩
  have aE : ∀ j, AgE σ u j := fun j => ⟨fun g hg => by rw [row g ((by decide : ∀ g ∈ eRows, g ∉ [r_order]) g hg)], by rw [(f.2.2 r_eScore (by decide)).2]⟩
  have p1 : (kIds ks' ++ fk).Perm (kIds ks ++ fk) := List.Perm.append_right _ (hp.map _)
  have p2 : (eIds ks' ++ fe).Perm (eIds ks ++ fe) := List.Perm.append_right _ (hp.flatMap_right _)
  refine ⟨by rw [f.1 _ (by decide)]; exact a1, a2, by rw [ek, hp.length_eq], ho, fun x hx => (a5 x (hp.mem_iff.mp hx)).fr (aK _) (fun e _ => aE e) (fun j _ => by rw [row r_heap (by decide)]) (Nat.le_refl _), by rw [f.1 _ (by decide)]; exact a6, by rw [row r_kFree (by decide)]; exact a7, p1.nodup_iff.mpr a8, fun k hk => a9 k (p1.mem_iff.mp hk), p1.length_eq.trans a10, p2.nodup_iff.mpr a11, fun e he => a12 e (p2.mem_iff.mp he), p2.length_eq.trans a13, by rw [f.1 _ (by decide)]; exact a14, FSEG.fr a15 (fun e _ => by rw [row r_eNext (by decide)]), ?_, ?_⟩
  · intro e he
    obtain ⟨⟨p, p1, p2⟩, q, q1, q2⟩ := a16 e he
    exact ⟨⟨p, p1, by rw [row r_eAt (by decide)]; exact p2⟩, q, q1, by rw [row r_vAt (by decide)]; exact q2⟩
  · intro e he
    obtain ⟨⟨p, p1, p2⟩, q, q1, q2⟩ := a17 e he
    exact ⟨⟨p, p1, by rw [row r_kAt (by decide)]; exact p2⟩, q, q1, by rw [row r_tAt (by decide)]; exact q2⟩
def withN (x : KR) (w : List Int32) : KR := (x.1, w, x.2.2.1, x.2.2.2.1, x.2.2.2.2.1, x.2.2.2.2.2.1, x.2.2.2.2.2.2)
theorem ks_kname {v u : mjS} {hs : Nat} {A B : List KR} {x : KR} {fk fe : List Nat} {w : List Int32} (h : KS v hs (A ++ x :: B) fk fe) (hw : WR v u r_kAt r_kLen x.1 hs w) (hh : hs + w.length ≤ 300000) : KS u (hs + w.length) (A ++ withN x w :: B) fk fe := by
  have h0 := h
  obtain ⟨a1, a2, a3, a4, a5, a6, a7, a8, a9, a10, a11, a12, a13, a14, a15, a16, a17⟩ := h
  have hx : x ∈ A ++ x :: B := List.mem_append_right _ List.mem_cons_self
  obtain ⟨k1, k2, k3, k4, k5, k6, k7, k8, k9, k10, k11⟩ := a5 x hx
  have rg := hw.rg a2
  obtain ⟨f, e1, aH, -, eA, eL⟩ := hw
  have row : ∀ g, g ∉ [r_heap, r_kAt, r_kLen] → u.2.2.1 g = v.2.2.1 g := fun g hg => (f.2.2 g hg).1
  have aE : ∀ j, AgE v u j := fun j => ⟨fun g hg => by rw [row g ((by decide : ∀ g ∈ eRows, g ∉ [r_heap, r_kAt, r_kLen]) g hg)], by rw [(f.2.2 r_eScore (by decide)).2]⟩
  refine KS.one h0 (x' := withN x w) rfl e1 (Nat.le_add_right _ _) hh (f.1 _ (by decide)) (f.1 _ (by decide)) ((f.1 _ (by decide)).trans a14) (row _ (by decide)) (row _ (by decide)) ?_ (fun j _ _ => aE j) aH ?_ (List.Perm.refl _) (FSEG.fr a15 (fun j _ => by rw [row r_eNext (by decide)])) ?_
  · intro j hj
    refine ⟨fun g hg => ?_, by rw [(f.2.2 r_kTime (by decide)).2]⟩
    rcases (by decide : ∀ g ∈ kRows, g = r_kAt ∨ g = r_kLen ∨ g ∉ [r_heap, r_kAt, r_kLen]) g hg with rfl | rfl | c
    · rw [eA, if_neg hj]
    · rw [eL, if_neg hj]
    · rw [row g c]
  · exact ⟨k1, rg, by rw [row r_kSort (by decide)]; exact k3, by rw [row r_kTimed (by decide)]; exact k4, by rw [(f.2.2 r_kTime (by decide)).2]; exact k5, k6.fr (by rw [row r_tAt (by decide)]) (by rw [row r_tLen (by decide)]) aH (Nat.le_add_right _ _), by rw [row r_kHead (by decide)]; exact k7, by rw [row r_kTail (by decide)]; exact k8, by rw [row r_kMany (by decide)]; exact k9, k10.fr (fun e _ => aE e), fun y hy => (k11 y hy).fr (aE _) aH (Nat.le_add_right _ _)⟩
  · intro j hj
    obtain ⟨⟨p, p1, p2⟩, q, q1, q2⟩ := a16 j hj
    exact ⟨⟨p, p1, by rw [row r_eAt (by decide)]; exact p2⟩, q, q1, by rw [row r_vAt (by decide)]; exact q2⟩
set_option maxRecDepth 100000 in
theorem c_rn_1 (K : mjK) {σ : mjS} {hs : Nat} {A B : List KR} {x : KR} {fk fe : List Nat} (h : KS σ hs (A ++ x :: B) fk fe) (ty : mjTY σ) (x1 x2 x3 : Int32) (e2 : x2 = nI x.1) (hK : ∀ x4, x4 = nI A.length → mjY mjPP (mjQQ Y) d 98 56 [some (.ref 0), some (.int x1), some (.int x2), some (.int x3), some (.int x4), none] [] σ K) : ∀ (m i : Nat) (x4 : Int32), x4 = nI i → i + m = A.length →
    mjY mjPP (mjQQ Y) d 98 48 [some (.ref 0), some (.int x1), some (.int x2), some (.int x3), some (.int x4), none] [] σ K := by
  have hl := ks_len h
  rw [List.length_append, List.length_cons] at hl
  obtain ⟨a1, a2, a3, a4, a5, a6, a7, a8, a9, a10, -⟩ := h
  have hx : x ∈ A ++ x :: B := List.mem_append_right _ List.mem_cons_self
  have k1 := (a5 x hx).1
  intro m
  induction m with
  | zero =>
    intro i x4 e4 hi
    have hi : i = A.length := by omega
    have c4 : x4.toNatClampNeg = i := by rw [e4]; exact nI_clamp (by omega)
    have v4 : vp_in x4 4700 := by rw [e4]; exact vp_in_nI (by omega) (by decide)
    refine mjZ_y rfl rfl 6 _ _ _ _ ty ?_
    refine (And.intro rfl (And.intro rfl (And.intro v4 (And.intro (fun c => ?_) (fun c => ?_)))))
    · exact hK x4 (by rw [e4, hi])
    · refine absurd (show σ.2.2.1 r_order x4.toNatClampNeg = x2 from ?_) c
      rw [c4, e2, hi]
      exact a4 A.length x (by rw [List.getElem?_append_right (Nat.le_refl _), Nat.sub_self]; rfl)
  | succ m ih =>
    intro i x4 e4 hi
    have hiA : i < A.length := by omega
    have c4 : x4.toNatClampNeg = i := by rw [e4]; exact nI_clamp (by omega)
    have v4 : vp_in x4 4700 := by rw [e4]; exact vp_in_nI (by omega) (by decide)
    refine mjZ_y rfl rfl 6 _ _ _ _ ty ?_
    refine (And.intro rfl (And.intro rfl (And.intro v4 (And.intro (fun c => ?_) (fun c => ?_)))))
    · exfalso
      have c : σ.2.2.1 r_order x4.toNatClampNeg = x2 := c
      have hy : (A ++ x :: B)[i]? = some A[i] := by rw [List.getElem?_append_left hiA]; exact List.getElem?_eq_getElem hiA
      rw [c4, e2, a4 i _ hy] at c
      have m1 : A[i] ∈ A := List.getElem_mem hiA
      have y1 := (a5 A[i] (List.mem_append_left _ m1)).1
      have c2 := (nI_eq (by omega) (by omega)).mp c
      rw [kIds_app, kIds_cons] at a8
      exact (List.nodup_append.mp (List.nodup_append.mp a8).1).2.2 _ (mem_kIds m1) x.1 List.mem_cons_self c2
    · refine mjZ_y rfl rfl 2 _ _ _ _ ty ?_
      exact ih (i + 1) _ (by rw [e4]; exact nI_1 i) (by omega)
set_option maxRecDepth 100000 in
theorem c_rn_2 (K : mjK) (a n : Nat) (hn : n < 4700) (x1 x2 x3 x4 : Int32) (O : Nat → Int32) : ∀ (m i : Nat) (σ : mjS) (x5 : Int32), x5 = nI (a + i) → a + i + m = n → mjTY σ → σ.1 f_keys = nI n → σ.2.2.1 r_order = va_cpy O O (a + 1) a i →
    (∀ u x5, mjTY u → Fr [] [r_order] σ u → u.2.2.1 r_order = va_cpy O O (a + 1) a (n - a) → mjY mjPP (mjQQ Y) d 98 80 [some (.ref 0), some (.int x1), some (.int x2), some (.int x3), some (.int x4), some (.int x5)] [] u K) →
    mjY mjPP (mjQQ Y) d 98 64 [some (.ref 0), some (.int x1), some (.int x2), some (.int x3), some (.int x4), some (.int x5)] [] σ K := by
  intro m
  induction m with
  | zero =>
    intro i σ x5 e5 hi ty ek eo hK
    refine mjZ_y rfl rfl 4 _ _ _ _ ty ?_
    refine (And.intro rfl (And.intro (fun c => ?_) (fun c => ?_)))
    · exact hK σ _ ty Fr.rf (by rw [eo]; exact congrArg (va_cpy O O (a + 1) a) (by omega))
    · exact absurd (show σ.1 f_keys ≤ x5 by rw [ek, e5]; exact nI_le (by omega) (by omega)) c
  | succ m ih =>
    intro i σ x5 e5 hi ty ek eo hK
    have c5 : x5.toNatClampNeg = a + i := by rw [e5]; exact nI_clamp (by omega)
    have e6 : x5 + Int32.ofInt 1 = nI (a + i + 1) := by rw [e5]; exact nI_1 _
    have c6 : (x5 + Int32.ofInt 1).toNatClampNeg = a + i + 1 := by rw [e6]; exact nI_clamp (by omega)
    have v5 : vp_in x5 4700 := by rw [e5]; exact vp_in_nI (by omega) (by decide)
    have v6 : vp_in (x5 + Int32.ofInt 1) 4700 := by rw [e6]; exact vp_in_nI (by omega) (by decide)
    refine mjZ_y rfl rfl 4 _ _ _ _ ty ?_
    refine (And.intro rfl (And.intro (fun c => ?_) (fun c => ?_)))
    · exact absurd (show σ.1 f_keys ≤ x5 from c) (by rw [ek, e5]; exact nI_ge (by omega) (by omega))
    · refine mjZ_y rfl rfl 12 _ _ _ _ ty ?_
      refine (And.intro rfl (And.intro rfl (And.intro rfl (And.intro v6 (And.intro rfl (And.intro v5 (fun ty' => ?_)))))))
      refine ih (i + 1) _ _ (by rw [e5]; exact nI_1 (a + i)) (by omega) ty' ek ?_ (fun u x5 tu fu pu => hK u x5 tu ((Fr.a (by decide)).tr fu) pu)
      show mjIu σ.2.2.1 r_order x5.toNatClampNeg (σ.2.2.1 r_order (x5 + Int32.ofInt 1).toNatClampNeg) r_order = _
      rw [mjIu_self, c5, c6, eo, ← cpy_s]
      refine congrArg (upd _ (a + i)) ?_
      unfold va_cpy
      rw [if_neg (by omega)]
      exact congrArg O (by omega)
set_option maxRecDepth 100000 in
theorem c_rn_3 (K : mjK) (p N : Nat) (hN : N < 4700) (x1 x2 x3 x4 : Int32) (e4 : x4 = nI p) (O : Nat → Int32) : ∀ (m i : Nat) (σ : mjS) (x5 : Int32), x5 = nI i → i = p + m → i ≤ N → mjTY σ → (∀ j, σ.2.2.1 r_order j = if i < j ∧ j ≤ N then O (j - 1) else O j) →
    (∀ u x5, mjTY u → Fr [] [r_order] σ u → (∀ j, u.2.2.1 r_order j = if p < j ∧ j ≤ N then O (j - 1) else O j) → mjY mjPP (mjQQ Y) d 98 102 [some (.ref 0), some (.int x1), some (.int x2), some (.int x3), some (.int x4), some (.int x5)] [] u K) →
    mjY mjPP (mjQQ Y) d 98 87 [some (.ref 0), some (.int x1), some (.int x2), some (.int x3), some (.int x4), some (.int x5)] [] σ K := by
  intro m
  induction m with
  | zero =>
    intro i σ x5 e5 hi hiN ty eo hK
    have hi : i = p := by omega
    refine mjZ_y rfl rfl 3 _ _ _ _ ty ?_
    refine And.intro (fun c => ?_) (fun c => ?_)
    · exact hK σ _ ty Fr.rf (by rw [hi] at eo; exact eo)
    · exact absurd (show x5 ≤ x4 by rw [e5, e4, hi]; exact nI_le (Nat.le_refl _) (by omega)) c
  | succ m ih =>
    intro i σ x5 e5 hi hiN ty eo hK
    have es : x5 - Int32.ofInt 1 = nI (i - 1) := by
      rw [e5, show Int32.ofInt 1 = nI 1 from rfl, pk_sub (by omega)]
    have ea : x5 + Int32.ofInt (-1) = nI (i - 1) := by
      rw [← es, Int32.sub_eq_add_neg]; rfl
    have ic : x5.toNatClampNeg = i := by rw [e5]; exact nI_clamp (by omega)
    have jc : (x5 - Int32.ofInt 1).toNatClampNeg = i - 1 := by rw [es]; exact nI_clamp (by omega)
    have v5 : vp_in x5 4700 := by rw [e5]; exact vp_in_nI (by omega) (by decide)
    have v6 : vp_in (x5 - Int32.ofInt 1) 4700 := by rw [es]; exact vp_in_nI (by omega) (by decide)
    refine mjZ_y rfl rfl 3 _ _ _ _ ty ?_
    refine And.intro (fun c => ?_) (fun c => ?_)
    · exact absurd (show x5 ≤ x4 from c) (by rw [e5, e4]; exact nI_ge (by omega) (by omega))
    · refine mjZ_y rfl rfl 12 _ _ _ _ ty ?_
      refine (And.intro rfl (And.intro rfl (And.intro rfl (And.intro v6 (And.intro rfl (And.intro v5 (fun ty' => ?_)))))))
      refine ih (i - 1) _ _ ea (by omega) (by omega) ty' (fun j => ?_) (fun u x5 tu fu pu => hK u x5 tu ((Fr.a (by decide)).tr fu) pu)
      show mjIu σ.2.2.1 r_order x5.toNatClampNeg (σ.2.2.1 r_order (x5 - Int32.ofInt 1).toNatClampNeg) r_order j = _
      rw [mjIu_s, ic, jc, eo, eo]
      by_cases c : j = i
      · rw [if_pos c, if_neg (by omega), if_pos (by omega), c]
      · rw [if_neg c]
        by_cases c2 : i < j ∧ j ≤ N
        · rw [if_pos c2, if_pos (by omega)]
        · rw [if_neg c2, if_neg (by omega)]
/-- a key comes to another name -/
def rnA (A : List AK) (p : Nat) (w : List Int32) : List AK := match A[p]? with
  | some a => inA (rmA A p) (plF (anm (rmA A p)) w) (w, a.2)
  | none => A
set_option maxRecDepth 100000 in
set_option maxHeartbeats 1000000 in
theorem c_rn_43 {σ u0 : mjS} {ws : List (List Int32)} {P Q ks0 : List KR} {y : KR} {l : List Int32} (h : Wd σ ws (P ++ y :: Q) l) (ty : mjTY σ) (f0 : Fr cF cH u0 σ) {i1 : Nat} (hi : i1 < 128) {x1 x2 x3 : Int32} (e1 : x1 = nI i1) (e2 : x2 = nI y.1) {w2 : List Int32} (h2 : ws[2]? = some w2) (ht : tT (strip (P ++ y :: Q)) ≤ 200000) (hn : tT (strip (P ++ y :: Q)) + w2.length ≤ 300000) (hs : l.length + 132 + sz ws ≤ 420000) :
    mjY mjPP (mjQQ Y) (d + 6) 98 43 [some (.ref 0), some (.int x1), some (.int x2), some (.int x3), none, none] [] σ (cmdK u0 ws ks0 l i1 (some (rnA (strip (P ++ y :: Q)) P.length w2))) := by
  have hlen := (List.getElem?_eq_some_iff.mp h2).1
  have hid := h.id
  have v2 : vp_in x2 4700 := by rw [e2]; exact vp_in_nI hid (by decide)
  have c2 : x2.toNatClampNeg = y.1 := by rw [e2]; exact nI_clamp (by omega)
  refine mjZ_y rfl rfl 3 _ _ _ _ ty ?_
  refine (And.intro (Nat.le_of_ble_eq_true rfl) (And.intro rfl (And.intro (Nat.le_of_ble_eq_true rfl) (And.intro (Nat.le_of_ble_eq_true rfl) (mjY_mono ty (fun q_ u1 ty1 h_ => ?_) (w_touch h ty (x := y) (List.mem_append_right _ List.mem_cons_self) e2))))))
  obtain ⟨rfl, h3, f3⟩ := h_
  intro _
  obtain ⟨hz, fk, fe, k⟩ := h3.1
  have hl := ks_len k
  rw [List.length_append, List.length_cons] at hl
  have ek : u1.1 f_keys = nI (P.length + Q.length + 1) := by rw [k.2.2.1, List.length_append, List.length_cons]; rfl
  refine mjZ_y rfl rfl 2 _ _ _ _ ty1 ?_
  refine (And.intro (Nat.le_of_ble_eq_true rfl) ?_)
  refine c_rn_1 _ k ty1 x1 x2 x3 e2 (fun x4 e4 => ?_) P.length 0 _ rfl (Nat.zero_add _)
  refine mjZ_y rfl rfl 8 _ _ _ _ ty1 ?_
  refine (And.intro rfl (And.intro rfl (And.intro (Or.inl rfl) (fun ty1' => (And.intro (Nat.le_of_ble_eq_true rfl) ?_)))))
  have ek1 : u1.1 f_keys - 1 = nI (P.length + Q.length) := by rw [ek]; exact pk_sub (b := 1) (by omega)
  have fk1 : Fr [f_keys] [r_order] u1 (upd u1.1 f_keys (u1.1 f_keys - 1), u1.2) := Fr.i (by decide)
  have sto : ∀ u2 : mjS, mjTY u2 → u2 = (upd u1.1 f_keys (u1.1 f_keys - 1), u1.2) → mjY mjPP (mjQQ Y) (d + 6) 98 64 [some (.ref 0), some (.int x1), some (.int x2), some (.int x3), some (.int x4), some (.int x4)] [] u2 (cmdK u0 ws ks0 l i1 (some (rnA (strip (P ++ y :: Q)) P.length w2))) := by
    intro u2 ty2 eu2
    rw [← eu2] at fk1
    have kk2 : u2.1 f_keys = nI (P.length + Q.length) := by rw [eu2]; show upd u1.1 f_keys (u1.1 f_keys - 1) f_keys = _; rw [pk_us]; exact ek1
    refine c_rn_2 _ P.length (P.length + Q.length) (by omega) x1 x2 x3 x4 (u1.2.2.1 r_order) Q.length 0 u2 _ e4 (by omega) ty2 kk2 (by rw [eu2, cpy_0]) (fun u3 x5 ty3 f4 eo3 => ?_)
    have fr3 : Fr [f_keys] [r_order] u1 u3 := fk1.tr (f4.up (fun _ q => by cases q) (fun _ q => q))
    have kk3 : u3.1 f_keys = nI (P ++ Q).length := by rw [f4.1 _ (by decide), List.length_append]; exact kk2
    have ord3 : ∀ (i : Nat) (x : KR), (P ++ Q)[i]? = some x → u3.2.2.1 r_order i = nI x.1 := by
      intro i x hx
      have hi3 := (List.getElem?_eq_some_iff.mp hx).1
      rw [List.length_append] at hi3
      rw [eo3]
      unfold va_cpy
      by_cases c : i < P.length
      · rw [if_neg (by omega)]
        rw [List.getElem?_append_left c] at hx
        exact k.2.2.2.1 i x (by rw [List.getElem?_append_left c]; exact hx)
      · rw [if_pos (by omega)]
        rw [List.getElem?_append_right (by omega)] at hx
        have e : P.length + 1 + (i - P.length) = i + 1 := by omega
        rw [e]
        refine k.2.2.2.1 (i + 1) x ?_
        rw [List.getElem?_append_right (by omega), show i + 1 - P.length = (i - P.length) + 1 by omega]
        exact hx
    have sub : ∀ x ∈ P ++ Q, x ∈ P ++ y :: Q := fun x hx => (List.mem_append.mp hx).elim (fun q => List.mem_append_left _ q) (fun q => List.mem_append_right _ (List.mem_cons_of_mem _ q))
    have rows3 : ∀ g, g ∉ [r_order] → u3.2.2.1 g = u1.2.2.1 g := fun g hg => (fr3.2.2 g hg).1
    have aK : ∀ j, AgK u1 u3 j := fun j => ⟨fun g hg => by rw [rows3 g ((by decide : ∀ g ∈ kRows, g ∉ [r_order]) g hg)], by rw [(fr3.2.2 r_kTime (by decide)).2]⟩
    have aE : ∀ j, AgE u1 u3 j := fun j => ⟨fun g hg => by rw [rows3 g ((by decide : ∀ g ∈ eRows, g ∉ [r_order]) g hg)], by rw [(fr3.2.2 r_eScore (by decide)).2]⟩
    have pl3 : PLc u3 hz (P ++ Q) := ⟨k.2.1, kk3, ord3, fun x hx => (k.2.2.2.2.1 x (sub x hx)).fr (aK _) (fun e _ => aE e) (fun j _ => by rw [rows3 r_heap (by decide)]) (Nat.le_refl _), by rw [List.length_append]; omega⟩
    have ar3 : AR u3 ws := h3.2.1.fr fr3 (by decide) (by decide) (by decide) (by decide)
    have hpl := plF_le (nms (P ++ Q)) w2
    have hpl : plF (nms (P ++ Q)) w2 ≤ (P ++ Q).length := by unfold nms at hpl ⊢; rw [List.length_map] at hpl; exact hpl
    have lenPQ : (P ++ Q).length = P.length + Q.length := List.length_append
    refine mjZ_y rfl rfl 3 _ _ _ _ ty3 ?_
    refine (And.intro (Nat.le_of_ble_eq_true rfl) (And.intro rfl (And.intro (Nat.le_of_ble_eq_true rfl) (And.intro (Nat.le_of_ble_eq_true rfl) (mjY_mono ty3 (fun q_ u4 ty4 h_ => ?_) (c_placeL pl3 ar3 2 w2 h2 ty3))))))
    obtain ⟨rfl, rfl⟩ := h_
    intro _
    generalize hp2 : plF (nms (P ++ Q)) w2 = p2 at *
    refine mjZ_y rfl rfl 4 _ _ _ _ ty3 ?_
    refine (And.intro (Nat.le_of_ble_eq_true rfl) (And.intro rfl (And.intro (Nat.le_of_ble_eq_true rfl) ?_)))
    refine c_rn_3 _ p2 (P ++ Q).length (by omega) x1 x2 x3 _ rfl (u4.2.2.1 r_order) ((P ++ Q).length - p2) (P ++ Q).length u4 _ kk3 (by omega) (Nat.le_refl _) ty3 (fun j => by rw [if_neg (by omega)]) (fun u5 x5 ty5 f6 eo5 => ?_)
    have v4 : vp_in (nI p2) 4700 := vp_in_nI (by omega) (by decide)
    have c4 : (nI p2).toNatClampNeg = p2 := nI_clamp (by omega)
    have kk5 : u5.1 f_keys = nI (P ++ Q).length := by rw [f6.1 _ (by decide)]; exact kk3
    refine mjZ_y rfl rfl 11 _ _ _ _ ty5 ?_
    refine (And.intro rfl (And.intro rfl (And.intro v4 (fun ty5' => (And.intro rfl (And.intro rfl (And.intro (Or.inl rfl) (fun ty5'' => ?_))))))))
    have go : ∀ u6 : mjS, mjTY u6 → u6 = (upd u5.1 f_keys (u5.1 f_keys + 1), u5.2.1, mjIu u5.2.2.1 r_order (nI p2).toNatClampNeg x2, u5.2.2.2) → mjY mjPP (mjQQ Y) (d + 6) 98 113 [some (.ref 0), some (.int x1), some (.int x2), some (.int x3), some (.int (nI p2)), some (.int x5)] [] u6 (cmdK u0 ws ks0 l i1 (some (rnA (strip (P ++ y :: Q)) P.length w2))) := by
      intro u6 ty6 eu6
      have fr6 : Fr [f_keys] [r_order] u1 u6 := (fr3.tr (f6.up (fun _ q => by cases q) (fun _ q => q))).tr (by rw [eu6]; exact (Fr.a (h := r_order) (by decide)).tr (Fr.i (k := f_keys) (by decide)))
      have perm : ((P ++ Q).take p2 ++ y :: (P ++ Q).drop p2).Perm (P ++ y :: Q) := by
        refine List.perm_middle.trans ?_
        rw [List.take_append_drop]
        exact List.perm_middle.symm
      have k6 : KS u6 hz ((P ++ Q).take p2 ++ y :: (P ++ Q).drop p2) fk fe := by
        refine ks_perm k perm fr6 ?_ (fun i x hx => ?_)
        · rw [eu6]
          show upd u5.1 f_keys (u5.1 f_keys + 1) f_keys = _
          rw [pk_us, kk5, nI_1, List.length_append, List.length_append, List.length_cons]; rfl
        · rw [eu6]
          show mjIu u5.2.2.1 r_order (nI p2).toNatClampNeg x2 r_order i = _
          have hi6 := (List.getElem?_eq_some_iff.mp hx).1
          rw [List.length_append, List.length_cons, List.length_take, List.length_drop] at hi6
          have lt6 : ((P ++ Q).take p2).length = p2 := by rw [List.length_take]; omega
          rw [mjIu_s, c4, eo5]
          by_cases c : i = p2
          · rw [if_pos c, e2]
            rw [c, List.getElem?_append_right (by omega), lt6, Nat.sub_self] at hx
            have e : y = x := Option.some.inj hx
            rw [e]
          · rw [if_neg c]
            by_cases c3 : i < p2
            · rw [if_neg (by omega)]
              rw [List.getElem?_append_left (by omega), List.getElem?_take_of_lt c3] at hx
              exact ord3 i x hx
            · rw [if_pos ⟨by omega, by omega⟩]
              rw [List.getElem?_append_right (by omega), lt6, show i - p2 = (i - 1 - p2) + 1 by omega] at hx
              have hx : ((P ++ Q).drop p2)[i - 1 - p2]? = some x := hx
              rw [List.getElem?_drop, show p2 + (i - 1 - p2) = i - 1 by omega] at hx
              exact ord3 (i - 1) x hx
      have h6 : Wd u6 ws ((P ++ Q).take p2 ++ y :: (P ++ Q).drop p2) l := h3.ks fr6 ⟨hz, fk, fe, k6⟩ (by decide) (by decide)
      obtain ⟨v3, a, ea, el, ha, ew⟩ := h6.2.1.clamp h2 (x := Int32.ofInt 2) rfl
      have t6 : tot ((P ++ Q).take p2 ++ y :: (P ++ Q).drop p2) = tT (strip (P ++ y :: Q)) := by
        rw [tot_T, tT_at, tT_at]
        have e := List.take_append_drop p2 (P ++ Q)
        have e2 : tT (strip (P ++ Q)) = tT (strip ((P ++ Q).take p2)) + tT (strip ((P ++ Q).drop p2)) := by rw [← tT_app, ← strip_app, e]
        have e3 : tT (strip (P ++ Q)) = tT (strip P) + tT (strip Q) := by rw [strip_app, tT_app]
        omega
      have hc := c_room (Y := Y) (d := d + 3) k6 (by omega) w2.length (by omega) ty6
      rw [← el] at hc
      refine mjZ_y rfl rfl 6 _ _ _ _ ty6 ?_
      refine (And.intro rfl (And.intro rfl (And.intro v3 (And.intro (Nat.le_of_ble_eq_true rfl) (And.intro rfl (And.intro (Nat.le_of_ble_eq_true rfl) (And.intro (Nat.le_of_ble_eq_true rfl) (mjY_mono ty6 (fun q_ u7 ty7 h_ => ?_) (hc)))))))))
      obtain ⟨rfl, f7, hz7, k7, n7⟩ := h_
      intro _
      have fr7 : Fr kF kH u6 u7 := f7.up (by decide) (by decide)
      have h7 : Wd u7 ws ((P ++ Q).take p2 ++ y :: (P ++ Q).drop p2) l := h6.ks fr7 ⟨hz7, fk, fe, k7⟩ (by decide) (by decide)
      obtain ⟨-, a7, ea7, el7, ha7, ew7⟩ := h7.2.1.clamp h2 (x := Int32.ofInt 2) rfl
      have hh := c_hold (Y := Y) (d := d + 5) ty7 r_req a7 w2.length hz7 rfl (by decide) ha7 (by decide) k7.1 n7
      rw [← ea7, ← el7] at hh
      refine mjZ_y rfl rfl 15 _ _ _ _ ty7 ?_
      refine (And.intro rfl (And.intro rfl (And.intro rfl (And.intro rfl (And.intro v3 (And.intro rfl (And.intro rfl (And.intro v3 (And.intro (Nat.le_of_ble_eq_true rfl) (And.intro rfl (And.intro (Nat.le_of_ble_eq_true rfl) (And.intro (Nat.le_of_ble_eq_true rfl) (mjY_mono ty7 (fun q_ u8 ty8 h_ => ?_) (hh))))))))))))))
      obtain ⟨rfl, f8, g8, q8⟩ := h_
      intro _
      have el8 : u8.2.2.1 r_aLen (Int32.ofInt 2).toNatClampNeg = nI w2.length := by rw [(f8.2.2 _ (by decide)).1]; exact el7
      refine mjZ_y rfl rfl 9 _ _ _ _ ty8 ?_
      refine (And.intro rfl (And.intro v2 (fun ty8' => (And.intro rfl (And.intro rfl (And.intro rfl (And.intro v3 (And.intro rfl (And.intro v2 (fun ty8'' => ?_))))))))))
      have go2 : ∀ u9 : mjS, mjTY u9 → u9 = (u8.1, u8.2.1, mjIu (mjIu u8.2.2.1 r_kAt x2.toNatClampNeg (nI hz7)) r_kLen x2.toNatClampNeg (nI w2.length), u8.2.2.2) → mjY mjPP (mjQQ Y) (d + 6) 98 143 [some (.ref 0), some (.int x1), some (.int x2), some (.int x3), some (.int (nI p2)), some (.int x5)] [] u9 (cmdK u0 ws ks0 l i1 (some (rnA (strip (P ++ y :: Q)) P.length w2))) := by
        intro u9 ty9 eu9
        have r9 : u9.2.2.1 = mjIu (mjIu u8.2.2.1 r_kAt y.1 (nI hz7)) r_kLen y.1 (nI w2.length) := by rw [eu9, c2]
        have wr : WR u7 u9 r_kAt r_kLen y.1 hz7 w2 := by
          refine ⟨?_, by rw [eu9]; exact g8, fun j hj => ?_, ?_, fun j => ?_, fun j => ?_⟩
          · rw [eu9]; exact ((f8.up (fun _ q => q) (by decide)).tr (Fr.a (h := r_kAt) (by decide))).tr (Fr.a (h := r_kLen) (by decide))
          · rw [r9, mjIu_ne (by decide), mjIu_ne (by decide), q8]; exact cpy_lo hj
          · rw [r9, mjIu_ne (by decide), mjIu_ne (by decide), q8]; exact cpy_wd.trans ew7
          · rw [r9, mjIu_ne (by decide), mjIu_s, (f8.2.2 r_kAt (by decide)).1]
          · rw [r9, mjIu_s, mjIu_ne (by decide), (f8.2.2 r_kLen (by decide)).1]
        have k9 := ks_kname k7 wr n7
        have f9 : Fr kF kH u7 u9 := wr.1.up (by decide) (by decide)
        have h9 : Wd u9 ws ((P ++ Q).take p2 ++ withN y w2 :: (P ++ Q).drop p2) l := h7.ks f9 ⟨_, fk, fe, k9⟩ (by decide) (by decide)
        refine mjZ_y rfl rfl 3 _ _ _ _ ty9 ?_
        refine (And.intro (Nat.le_of_ble_eq_true rfl) (And.intro rfl (And.intro (Nat.le_of_ble_eq_true rfl) (And.intro (Nat.le_of_ble_eq_true rfl) (mjY_mono ty9 (fun q_ u10 ty10 h_ => ?_) (w_touch h9 ty9 (x := withN y w2) (List.mem_append_right _ List.mem_cons_self) e2))))))
        obtain ⟨rfl, h10, f10⟩ := h_
        intro _
        refine mjZ_y rfl rfl 3 _ _ _ _ ty10 ?_
        refine (And.intro (Nat.le_of_ble_eq_true rfl) (And.intro rfl (And.intro (Nat.le_of_ble_eq_true rfl) (And.intro (Nat.le_of_ble_eq_true rfl) (mjY_mono ty10 (fun q_ u11 ty11 h_ => ?_) (w_noteAll h10 ty10 (by omega) i1 e1 hi hs))))))
        obtain ⟨rfl, h11, f11⟩ := h_
        intro _
        have fa : Fr cF cH u0 u10 := (((f0.tr f3.t).tr (fr6.up (by decide) (by decide))).tr (fr7.k.tr f9.k)).tr f10.t
        rw [ntA_fr fa] at h11
        have es : strip ((P ++ Q).take p2 ++ withN y w2 :: (P ++ Q).drop p2) = rnA (strip (P ++ y :: Q)) P.length w2 := by
          unfold rnA
          rw [strip_gt, strip_in]
          have e : rmA (strip (P ++ y :: Q)) P.length = strip (P ++ Q) := strip_rm.symm
          show inA (strip (P ++ Q)) p2 _ = inA (rmA (strip (P ++ y :: Q)) P.length) _ _
          rw [e, ← nms_strip, hp2]; rfl
        refine mjZ_y rfl rfl 3 _ _ _ _ ty11 ?_
        refine And.intro (fun c => ?_) (fun c => ?_)
        · refine mjZ_y rfl rfl 3 _ _ _ _ ty11 ?_
          refine (And.intro (Nat.le_of_ble_eq_true rfl) (And.intro rfl (And.intro (Nat.le_of_ble_eq_true rfl) (And.intro (Nat.le_of_ble_eq_true rfl) (mjY_mono ty11 (fun q_ u12 ty12 h_ => ?_) (w_number h11 ty11 _))))))
          obtain ⟨rfl, h12, f12⟩ := h_
          intro _
          refine mjZ_y rfl rfl 1 _ _ _ _ ty12 ?_
          refine And.intro rfl (And.intro rfl ?_)
          exact ⟨rfl, (fa.tr f11.n).tr f12.c, _, h12, es⟩
        · refine mjZ_y rfl rfl 2 _ _ _ _ ty11 ?_
          refine (And.intro (Nat.le_of_ble_eq_true rfl) (And.intro rfl (And.intro (Nat.le_of_ble_eq_true rfl) (And.intro (Nat.le_of_ble_eq_true rfl) (mjY_mono ty11 (fun q_ u12 ty12 h_ => ?_) (w_ok h11 ty11))))))
          obtain ⟨rfl, h12, f12⟩ := h_
          intro _
          refine mjZ_y rfl rfl 2 _ _ _ _ ty12 ?_
          refine And.intro rfl (And.intro rfl ?_)
          exact ⟨rfl, (fa.tr f11.n).tr f12.c, _, h12, es⟩
      refine go2 _ ty8'' ?_
      show (u8.1, u8.2.1, mjIu (mjIu u8.2.2.1 r_kAt x2.toNatClampNeg (nI hz7)) r_kLen x2.toNatClampNeg (u8.2.2.1 r_aLen (Int32.ofInt 2).toNatClampNeg), u8.2.2.2) = _
      rw [el8]
    exact go _ ty5'' rfl
  exact sto _ ty1' rfl
def reF (A : List AK) (w1 w2 : List Int32) (i1 : Nat) : Option (List AK) := match kyI A w1 with
  | none => none
  | some p => if kyI A w2 = some p then none else (match kyI A w2 with
    | none => some (rnA A p w2)
    | some q => if i1 = 26 then none else some (rnA (rmA A q) (if q < p then p - 1 else p) w2))
theorem rn_find {P Q P2 Q2 : List KR} {y z : KR} (e : P ++ y :: Q = P2 ++ z :: Q2) (hne : ¬ P2.length = P.length) : ∃ R S, P2 ++ Q2 = R ++ y :: S ∧ R.length = (if P2.length < P.length then P.length - 1 else P.length) := by
  rcases List.append_eq_append_iff.mp e with ⟨M, e1, e2⟩ | ⟨M, e1, e2⟩
  · cases M with
    | nil => rw [List.append_nil] at e1; exact absurd (by rw [e1]) hne
    | cons m M =>
      obtain ⟨e3, e4⟩ := List.cons.inj e2
      refine ⟨P, M ++ Q2, by rw [e1, ← e3, List.append_assoc]; rfl, ?_⟩
      rw [if_neg (by rw [e1, List.length_append, List.length_cons]; omega)]
  · cases M with
    | nil => rw [List.append_nil] at e1; exact absurd (by rw [e1]) hne
    | cons m M =>
      obtain ⟨e3, e4⟩ := List.cons.inj e2
      have e4 : Q2 = M ++ y :: Q := e4
      refine ⟨P2 ++ M, Q, by rw [e4, List.append_assoc], ?_⟩
      rw [e1, List.length_append, List.length_append, List.length_cons, if_pos (by omega)]; omega
set_option maxRecDepth 100000 in
theorem r_rename {σ : mjS} {ws : List (List Int32)} {ks : List KR} {l : List Int32} (h : Wd σ ws ks l) (ty : mjTY σ) (i1 : Nat) (hi : i1 = 25 ∨ i1 = 26) {x1 : Int32} (e1 : x1 = nI i1) {w1 w2 : List Int32} (h1 : ws[1]? = some w1) (h2 : ws[2]? = some w2) (ht : tT (strip ks) ≤ 200000) (hn : tT (strip ks) + w2.length ≤ 300000) (hs : l.length + 132 + sz ws ≤ 420000) :
    mjY mjPP (mjQQ Y) (d + 6) 98 0 (mjL0 6 [.ref 0, .int x1]) [] σ (cmdK σ ws ks l i1 (reF (strip ks) w1 w2 i1)) := by
  have nn : ∀ c : Nat, c < 128 → ((¬ x1 = nI c) ↔ ¬ i1 = c) := fun c hc => by rw [e1, nI_eq (by omega) (by omega)]
  refine mjZ_y rfl rfl 3 _ _ _ _ ty ?_
  refine (And.intro (Nat.le_of_ble_eq_true rfl) (And.intro rfl (And.intro (Nat.le_of_ble_eq_true rfl) (And.intro (Nat.le_of_ble_eq_true rfl) (mjY_mono ty (fun q_ u1 ty1 h_ => ?_) (w_key h ty h1 (x := Int32.ofInt 1) rfl))))))
  obtain ⟨rfl, rfl⟩ := h_
  intro _
  refine mjZ_y rfl rfl 3 _ _ _ _ ty1 ?_
  refine (And.intro (Nat.le_of_ble_eq_true rfl) (And.intro (fun c => ?_) (fun c => ?_)))
  · have c := (ky_ge h w1).1.mp c
    obtain ⟨P, y, Q, g0, g1, g2, -⟩ := ky_some c
    have e2 : kyS ks w1 = nI y.1 := g2
    generalize kyS ks w1 = x2 at e2
    subst g0
    have hid := h.id
    refine mjZ_y rfl rfl 3 _ _ _ _ ty1 ?_
    refine (And.intro (Nat.le_of_ble_eq_true rfl) (And.intro rfl (And.intro (Nat.le_of_ble_eq_true rfl) (And.intro (Nat.le_of_ble_eq_true rfl) (mjY_mono ty1 (fun q_ u2 ty2 h_ => ?_) (w_key h ty1 h2 (x := Int32.ofInt 2) rfl))))))
    obtain ⟨rfl, rfl⟩ := h_
    intro _
    refine mjZ_y rfl rfl 4 _ _ _ _ ty1 ?_
    refine (And.intro (Nat.le_of_ble_eq_true rfl) (And.intro (fun a => ?_) (fun a => ?_)))
    · -- not the same key
      have a2 : ¬ kyI (strip (P ++ y :: Q)) w2 = some P.length := by
        intro z
        refine a ?_
        show kyS (P ++ y :: Q) w2 = x2
        rcases ky_cases (P ++ y :: Q) w2 with ⟨a1, -⟩ | ⟨P2, z2, Q2, a0, a1, a2, -⟩
        · rw [a1] at z; cases z
        · rw [a1] at z
          have hp : P2.length = P.length := Option.some.inj z
          have e3 := List.append_inj a0 hp.symm
          obtain ⟨e4, -⟩ := List.cons.inj e3.2
          rw [a2, e2, e4]
      refine mjZ_y rfl rfl 2 _ _ _ _ ty1 ?_
      refine And.intro (fun b => ?_) (fun b => ?_)
      · have kn := (ky_ge h w2).2.mp b
        have eo : reF (strip (P ++ y :: Q)) w1 w2 i1 = some (rnA (strip (P ++ y :: Q)) P.length w2) := by unfold reF; rw [g1]; show (if kyI (strip (P ++ y :: Q)) w2 = some P.length then none else _) = _; rw [if_neg a2, kn]
        rw [eo]
        refine mjZ_y rfl rfl 2 _ _ _ _ ty1 ?_
        refine And.intro (fun q => ?_) (fun q => ?_)
        · exact c_rn_43 h ty1 Fr.rf (by omega) e1 e2 h2 ht hn hs
        · exact absurd b q
      · have kn : ¬ kyI (strip (P ++ y :: Q)) w2 = none := fun z => b ((ky_ge h w2).2.mpr z)
        obtain ⟨P2, z, Q2, a0, a1, a3, -⟩ := ky_some kn
        have hp : ¬ P2.length = P.length := fun t => a2 (by rw [a1, t])
        have h' : Wd u2 ws (P2 ++ z :: Q2) l := by rw [← a0]; exact h
        have hzid := h'.id
        have eo : reF (strip (P ++ y :: Q)) w1 w2 i1 = if i1 = 26 then none else some (rnA (rmA (strip (P ++ y :: Q)) P2.length) (if P2.length < P.length then P.length - 1 else P.length) w2) := by unfold reF; rw [g1]; show (if kyI (strip (P ++ y :: Q)) w2 = some P.length then none else _) = _; rw [if_neg a2, a1]
        rw [eo]
        have drop : ¬ i1 = 26 → mjY mjPP (mjQQ Y) (d + 6) 98 38 [some (.ref 0), some (.int x1), some (.int x2), some (.int (kyS (P ++ y :: Q) w2)), none, none] [] u2 (cmdK u2 ws (P ++ y :: Q) l i1 (if i1 = 26 then none else some (rnA (rmA (strip (P ++ y :: Q)) P2.length) (if P2.length < P.length then P.length - 1 else P.length) w2))) := by
          intro n26
          rw [if_neg n26]
          refine mjZ_y rfl rfl 2 _ _ _ _ ty1 ?_
          refine And.intro (fun q => ?_) (fun q => ?_)
          · exact absurd q b
          · refine mjZ_y rfl rfl 3 _ _ _ _ ty1 ?_
            refine (And.intro (Nat.le_of_ble_eq_true rfl) (And.intro rfl (And.intro (Nat.le_of_ble_eq_true rfl) (And.intro (Nat.le_of_ble_eq_true rfl) (mjY_mono ty1 (fun q_ u3 ty3 h_ => ?_) (w_drop h' ty1 a3))))))
            obtain ⟨rfl, h3, f3⟩ := h_
            intro _
            obtain ⟨R, S, r1, r2⟩ := rn_find a0 hp
            have er : rmA (strip (P ++ y :: Q)) P2.length = strip (R ++ y :: S) := by rw [← r1, a0]; exact strip_rm.symm
            rw [r1] at h3
            rw [er, ← r2]
            have t3 : tT (strip (R ++ y :: S)) ≤ tT (strip (P ++ y :: Q)) := by
              rw [← r1, a0, strip_app, tT_app, tT_at]; omega
            exact c_rn_43 h3 ty3 f3.k (by omega) e1 e2 h2 (by omega) (by omega) hs
        refine mjZ_y rfl rfl 3 _ _ _ _ ty1 ?_
        refine And.intro (fun q => ?_) (fun q => ?_)
        · exact drop ((nn 26 (by decide)).mp q)
        · have q : i1 = 26 := Decidable.of_not_not (fun t => q ((nn 26 (by decide)).mpr t))
          rw [if_pos q]
          refine mjZ_y rfl rfl 3 _ _ _ _ ty1 ?_
          refine (And.intro (Nat.le_of_ble_eq_true rfl) (And.intro rfl (And.intro (Nat.le_of_ble_eq_true rfl) (And.intro (Nat.le_of_ble_eq_true rfl) (mjY_mono ty1 (fun q_ u3 ty3 h_ => ?_) (w_number h ty1 _))))))
          obtain ⟨rfl, h3, f3⟩ := h_
          intro _
          refine mjZ_y rfl rfl 1 _ _ _ _ ty3 ?_
          refine And.intro rfl (And.intro rfl ?_)
          exact ⟨rfl, f3.c, _, h3, rfl⟩
    · -- the same key
      have a2 : kyI (strip (P ++ y :: Q)) w2 = some P.length := by
        have a : kyS (P ++ y :: Q) w2 = x2 := Decidable.of_not_not a
        rcases ky_cases (P ++ y :: Q) w2 with ⟨a1, a2⟩ | ⟨P2, z, Q2, a0, a1, a2, -⟩
        · rw [a2, e2] at a
          exact absurd (lt_m1 a.symm) (lt_nI (by omega) rfl)
        · have ez : z.1 = y.1 := by
            have hz : Wd u2 ws (P2 ++ z :: Q2) l := by rw [← a0]; exact h
            have := hz.id
            rw [a2, e2] at a; exact (nI_eq (by omega) (by omega)).mp a
          rw [a1, W_slot h a0 ez]
      have eo : reF (strip (P ++ y :: Q)) w1 w2 i1 = none := by unfold reF; rw [g1]; exact if_pos a2
      rw [eo]
      refine mjZ_y rfl rfl 3 _ _ _ _ ty1 ?_
      refine And.intro (fun b => ?_) (fun b => ?_)
      · refine mjZ_y rfl rfl 3 _ _ _ _ ty1 ?_
        refine (And.intro (Nat.le_of_ble_eq_true rfl) (And.intro rfl (And.intro (Nat.le_of_ble_eq_true rfl) (And.intro (Nat.le_of_ble_eq_true rfl) (mjY_mono ty1 (fun q_ u3 ty3 h_ => ?_) (w_number h ty1 _))))))
        obtain ⟨rfl, h3, f3⟩ := h_
        intro _
        refine mjZ_y rfl rfl 1 _ _ _ _ ty3 ?_
        refine And.intro rfl (And.intro rfl ?_)
        exact ⟨rfl, f3.c, _, h3, rfl⟩
      · refine mjZ_y rfl rfl 2 _ _ _ _ ty1 ?_
        refine (And.intro (Nat.le_of_ble_eq_true rfl) (And.intro rfl (And.intro (Nat.le_of_ble_eq_true rfl) (And.intro (Nat.le_of_ble_eq_true rfl) (mjY_mono ty1 (fun q_ u3 ty3 h_ => ?_) (w_ok h ty1))))))
        obtain ⟨rfl, h3, f3⟩ := h_
        intro _
        refine mjZ_y rfl rfl 2 _ _ _ _ ty3 ?_
        refine And.intro rfl (And.intro rfl ?_)
        exact ⟨rfl, f3.c, _, h3, rfl⟩
  · have c : kyI (strip ks) w1 = none := Decidable.of_not_not (fun z => c ((ky_ge h w1).1.mpr z))
    have eo : reF (strip ks) w1 w2 i1 = none := by unfold reF; rw [c]
    rw [eo]
    refine mjZ_y rfl rfl 4 _ _ _ _ ty1 ?_
    refine (And.intro (Nat.le_of_ble_eq_true rfl) (And.intro rfl (And.intro (Nat.le_of_ble_eq_true rfl) (And.intro (Nat.le_of_ble_eq_true rfl) (mjY_mono ty1 (fun q_ u2 ty2 h_ => ?_) (w_error h ty1 _ _))))))
    obtain ⟨rfl, h3, f3⟩ := h_
    intro _
    refine mjZ_y rfl rfl 2 _ _ _ _ ty2 ?_
    refine And.intro rfl (And.intro rfl ?_)
    exact ⟨rfl, f3.c, ks, h3, rfl⟩
end RENAME2
