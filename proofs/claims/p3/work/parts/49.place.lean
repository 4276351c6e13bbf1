/-! Where a key stands. -/
section PLACE
variable {Y : Nat → MethodName × ByteArray} {d : Nat} {σ : mjS}
theorem RG.cmp {hs hA hL i : Nat} {w : List Int32} (h : RG σ hs hA hL i w) (hh : hs ≤ 300000) : ∃ a, σ.2.2.1 hA i = nI a ∧ σ.2.2.1 hL i = nI w.length ∧ a + w.length ≤ 300000 ∧ wd (σ.2.2.1 r_heap) a w.length = w := by
  obtain ⟨a, a1, a2, a3, a4⟩ := h
  rcases a4 with rfl | a4
  · exact ⟨a, a2, a3, a1, rfl⟩
  · exact ⟨a, a2, a3, by omega, a4.2⟩
/-- a word of the heap against a word of the request -/
theorem c_cmpR (ty : mjTY σ) {hs hA hL j i : Nat} {v w : List Int32} {ws : List (List Int32)} (hr : RG σ hs hA hL j v) (hh : hs ≤ 300000) (har : AR σ ws) (hw : ws[i]? = some w) : mjY mjPP (mjQQ Y) d 8 0 (mjL0 7 [.ref r_heap, .int (σ.2.2.1 hA j), .int (σ.2.2.1 hL j), .ref r_req, .int (σ.2.2.1 r_aAt i), .int (σ.2.2.1 r_aLen i)]) [] σ (fun x u => u = σ ∧ ∃ r : Int32, x = some (.int r) ∧ r.toInt = cmpW v w) := by
  obtain ⟨a, e1, e2, h1, h2⟩ := hr.cmp hh
  obtain ⟨b, e3, e4, h3, h4⟩ := har.2.2 i w hw
  have hc := c_compare (Y := Y) (d := d) r_heap r_req a v.length b w.length rfl rfl h1 h3 (by decide) (by decide) ty
  rw [h2, h4, ← e1, ← e2, ← e3, ← e4] at hc
  exact hc
/-- how place halves -/
def bs (ns : List (List Int32)) (w : List Int32) : Nat → Nat → Nat → Nat
  | 0, lo, _ => lo
  | f + 1, lo, hi => if lo < hi then (if cmpW (ns.getD ((lo + hi) / 2) []) w < 0 then bs ns w f ((lo + hi) / 2 + 1) hi else bs ns w f lo ((lo + hi) / 2)) else lo
def plF (ns : List (List Int32)) (w : List Int32) : Nat := bs ns w (ns.length + 1) 0 ns.length
theorem bs_le (ns : List (List Int32)) (w : List Int32) : ∀ f lo hi, lo ≤ hi → bs ns w f lo hi ≤ hi := by
  intro f
  induction f with
  | zero => intro lo hi h; exact h
  | succ f ih =>
    intro lo hi h
    show (if lo < hi then _ else lo) ≤ hi
    by_cases c : lo < hi
    · rw [if_pos c]
      by_cases c2 : cmpW (ns.getD ((lo + hi) / 2) []) w < 0
      · rw [if_pos c2]; exact ih _ _ (by omega)
      · rw [if_neg c2]; exact Nat.le_trans (ih _ _ (by omega)) (by omega)
    · rw [if_neg c]; exact h
theorem plF_le (ns : List (List Int32)) (w : List Int32) : plF ns w ≤ ns.length := bs_le ns w _ _ _ (Nat.zero_le _)
def nms (ks : List KR) : List (List Int32) := ks.map (fun x => x.2.1)
theorem nms_get {ks : List KR} {i : Nat} {x : KR} (h : ks[i]? = some x) : (nms ks).getD i [] = x.2.1 := by
  unfold nms; rw [List.getD_eq_getElem?_getD, List.getElem?_map, h]; rfl
theorem ks_len {hs : Nat} {ks : List KR} {fk fe : List Nat} (h : KS σ hs ks fk fe) : ks.length + fk.length = 4700 := by
  have e := h.2.2.2.2.2.2.2.2.2.1
  unfold kIds at e
  rw [List.length_append, List.length_map] at e
  exact e
set_option maxRecDepth 100000 in
theorem c_place_loop (K : mjK) {hs : Nat} {ks : List KR} {fk fe : List Nat} (hks : KS σ hs ks fk fe) {ws : List (List Int32)} (har : AR σ ws) (i : Nat) (w : List Int32) (hw : ws[i]? = some w) (ty : mjTY σ) : ∀ (f lo hi : Nat) (x2 x3 : Int32) (l4 l5 : Option Value), x2 = nI lo → x3 = nI hi → hi - lo < f → lo ≤ hi → hi ≤ ks.length → K (some (.int (nI (bs (nms ks) w f lo hi)))) σ →
    mjY mjPP (mjQQ Y) (d + 1) 10 5 [some (.ref 0), some (.int (nI i)), some (.int x2), some (.int x3), l4, l5] [] σ K := by
  have hl := ks_len hks
  have hi0 : i < ws.length := (List.getElem?_eq_some_iff.mp hw).1
  have h1024 := har.2.1
  intro f
  induction f with
  | zero => intro lo hi x2 x3 l4 l5 _ _ h; omega
  | succ f ih =>
    intro lo hi x2 x3 l4 l5 e2 e3 hf h1 h2 hK
    refine mjZ_y rfl rfl 3 _ _ _ _ ty ?_
    refine And.intro (fun c => ?_) (fun c => ?_)
    · have c : nI hi ≤ nI lo := by rw [← e2, ← e3]; exact c
      have c2 : hi ≤ lo := (nI_leI (by omega) (by omega)).mp c
      refine mjZ_re rfl rfl 2 ty ?_
      refine And.intro rfl (And.intro (Or.inl rfl) ?_)
      have e : bs (nms ks) w (f + 1) lo hi = lo := if_neg (by omega)
      rw [e] at hK
      rw [e2]; exact hK
    · have c2 : lo < hi := by
        refine Nat.lt_of_not_le (fun q => c ?_)
        show x3 ≤ x2
        rw [e2, e3]; exact nI_le q (by omega)
      have em : (x2 + x3) / Int32.ofInt 2 = nI ((lo + hi) / 2) := by rw [e2, e3, nI_add]; exact pk_div (d := 2) (by omega) (by decide) (by decide)
      have hm : (lo + hi) / 2 < ks.length := by omega
      have hx : ks[(lo + hi) / 2]? = some ks[(lo + hi) / 2] := List.getElem?_eq_getElem hm
      obtain ⟨-, hh, -, hord, hkok, -⟩ := hks
      have ho := hord _ _ hx
      have hk := hkok _ (List.mem_of_getElem? hx)
      have en := nms_get hx
      generalize ks[(lo + hi) / 2] = xr at hx ho hk en
      refine mjZ_re rfl rfl 33 ty ?_
      refine And.intro (by decide) (And.intro (Nat.le_of_ble_eq_true rfl) (And.intro rfl (And.intro rfl ?_)))
      rw [em]
      have i1 : (nI ((lo + hi) / 2)).toNatClampNeg = (lo + hi) / 2 := nI_clamp (by omega)
      have i2 : (nI i).toNatClampNeg = i := nI_clamp (by omega)
      refine And.intro (vp_in_nI (by show (lo + hi) / 2 < 4700; omega) (by decide)) (And.intro (Nat.le_of_ble_eq_true rfl) ?_)
      have ev : σ.2.2.1 r_order (nI ((lo + hi) / 2)).toNatClampNeg = nI xr.1 := by rw [i1]; exact ho
      have i3 : (σ.2.2.1 r_order (nI ((lo + hi) / 2)).toNatClampNeg).toNatClampNeg = xr.1 := by rw [ev]; exact nI_clamp (by have := hk.1; omega)
      have vk : vp_in (σ.2.2.1 r_order (nI ((lo + hi) / 2)).toNatClampNeg) 4700 := by rw [ev]; exact vp_in_nI hk.1 (by decide)
      have va : vp_in (nI i) 1100 := vp_in_nI (by omega) (by decide)
      refine And.intro rfl (And.intro rfl (And.intro rfl (And.intro vk (And.intro rfl (And.intro rfl (And.intro vk (And.intro rfl (And.intro rfl (And.intro rfl (And.intro va (And.intro rfl (And.intro rfl (And.intro va ?_)))))))))))))
      have hc := c_cmpR (Y := Y) (d := d) ty hk.2.1 hh har hw
      rw [← i3, ← i2] at hc
      refine And.intro (Nat.le_of_ble_eq_true rfl) (And.intro (Nat.le_of_ble_eq_true rfl) (And.intro (Nat.le_of_ble_eq_true rfl) (mjY_mono ty (fun v u1 ty1 h1 => ?_) hc)))
      obtain ⟨rfl, r, rfl, hr⟩ := h1
      intro _
      have r0 : (0 : Int32).toInt = 0 := by decide
      rw [← en] at hr
      have eb : bs (nms ks) w (f + 1) lo hi = (if cmpW ((nms ks).getD ((lo + hi) / 2) []) w < 0 then bs (nms ks) w f ((lo + hi) / 2 + 1) hi else bs (nms ks) w f lo ((lo + hi) / 2)) := if_pos c2
      rw [eb] at hK
      refine And.intro (fun cg => ?_) (fun cg => ?_)
      · have cg : (0 : Int32) ≤ r := cg
        have cg2 := Int32.le_iff_toInt_le.mp cg
        rw [r0, hr] at cg2
        rw [if_neg (by omega)] at hK
        refine mjZ_re rfl rfl 3 ty ?_
        refine And.intro (Nat.le_of_ble_eq_true rfl) ?_
        exact ih lo ((lo + hi) / 2) _ _ _ _ e2 rfl (by omega) (by omega) (by omega) hK
      · have cg2 : cmpW ((nms ks).getD ((lo + hi) / 2) []) w < 0 := by
          refine Int.lt_of_not_ge (fun q => cg ?_)
          show (0 : Int32) ≤ r
          rw [Int32.le_iff_toInt_le, r0, hr]; exact q
        rw [if_pos cg2] at hK
        refine mjZ_re rfl rfl 6 ty ?_
        refine And.intro (Nat.le_of_ble_eq_true rfl) ?_
        exact ih ((lo + hi) / 2 + 1) hi _ _ _ _ (nI_1 _) e3 (by omega) (by omega) (by omega) hK
set_option maxRecDepth 100000 in
theorem c_place {hs : Nat} {ks : List KR} {fk fe : List Nat} (hks : KS σ hs ks fk fe) {ws : List (List Int32)} (har : AR σ ws) (i : Nat) (w : List Int32) (hw : ws[i]? = some w) (ty : mjTY σ) : mjY mjPP (mjQQ Y) (d + 1) 10 0 (mjL0 6 [.ref 0, .int (nI i)]) [] σ (fun r u => r = some (.int (nI (plF (nms ks) w))) ∧ u = σ) := by
  have hn : (nms ks).length = ks.length := by unfold nms; rw [List.length_map]
  refine mjZ_y rfl rfl 5 _ _ _ _ ty ?_
  refine And.intro (Nat.le_of_ble_eq_true rfl) (And.intro rfl (And.intro (Nat.le_of_ble_eq_true rfl) ?_))
  have e3 : σ.1 f_keys = nI ks.length := hks.2.2.1
  refine c_place_loop _ hks har i w hw ty (ks.length + 1) 0 ks.length _ _ _ _ rfl e3 (by omega) (by omega) (by omega) ?_
  unfold plF; rw [hn]; exact ⟨rfl, rfl⟩
/-- the key of this name, by its number among all -/
def kyF (ks : List KR) (w : List Int32) : Option KR := match ks[plF (nms ks) w]? with
  | some x => if cmpW x.2.1 w = 0 then some x else none
  | none => none
set_option maxRecDepth 100000 in
theorem c_key {hs : Nat} {ks : List KR} {fk fe : List Nat} (hks : KS σ hs ks fk fe) {ws : List (List Int32)} (har : AR σ ws) (i : Nat) (w : List Int32) (hw : ws[i]? = some w) (ty : mjTY σ) : mjY mjPP (mjQQ Y) (d + 2) 11 0 (mjL0 4 [.ref 0, .int (nI i)]) [] σ (fun r u => r = some (.int (match kyF ks w with | some x => nI x.1 | none => -1)) ∧ u = σ) := by
  have hl := ks_len hks
  have hi0 : i < ws.length := (List.getElem?_eq_some_iff.mp hw).1
  have h1024 := har.2.1
  have hn : (nms ks).length = ks.length := by unfold nms; rw [List.length_map]
  have hp := plF_le (nms ks) w
  rw [hn] at hp
  have e3 : σ.1 f_keys = nI ks.length := hks.2.2.1
  refine mjZ_y rfl rfl 8 _ _ _ _ ty ?_
  refine And.intro (Nat.le_of_ble_eq_true rfl) (And.intro rfl (And.intro (Nat.le_of_ble_eq_true rfl) (And.intro (Nat.le_of_ble_eq_true rfl) (mjY_mono ty (fun v u1 ty1 h1 => ?_) (c_place (Y := Y) (d := d) hks har i w hw ty)))))
  obtain ⟨rfl, rfl⟩ := h1
  intro _
  refine And.intro (Nat.le_of_ble_eq_true rfl) (And.intro rfl (And.intro (fun c => ?_) (fun c => ?_)))
  · have c2 : plF (nms ks) w < ks.length := by
      refine Nat.lt_of_le_of_ne hp (fun q => c ?_)
      show nI (plF (nms ks) w) = u1.1 f_keys
      rw [e3, q]
    have hx : ks[plF (nms ks) w]? = some ks[plF (nms ks) w] := List.getElem?_eq_getElem c2
    have ek : kyF ks w = if cmpW ks[plF (nms ks) w].2.1 w = 0 then some ks[plF (nms ks) w] else none := by unfold kyF; rw [hx]
    obtain ⟨-, hh, -, hord, hkok, -⟩ := hks
    have ho := hord _ _ hx
    have hk := hkok _ (List.mem_of_getElem? hx)
    generalize ks[plF (nms ks) w] = xr at hx ho hk ek
    have i1 : (nI (plF (nms ks) w)).toNatClampNeg = plF (nms ks) w := nI_clamp (by omega)
    have i2 : (nI i).toNatClampNeg = i := nI_clamp (by omega)
    have ev : u1.2.2.1 r_order (nI (plF (nms ks) w)).toNatClampNeg = nI xr.1 := by rw [i1]; exact ho
    have i3 : (u1.2.2.1 r_order (nI (plF (nms ks) w)).toNatClampNeg).toNatClampNeg = xr.1 := by rw [ev]; exact nI_clamp (by have := hk.1; omega)
    have vk : vp_in (u1.2.2.1 r_order (nI (plF (nms ks) w)).toNatClampNeg) 4700 := by rw [ev]; exact vp_in_nI hk.1 (by decide)
    have va : vp_in (nI i) 1100 := vp_in_nI (by omega) (by decide)
    refine mjZ_re rfl rfl 27 ty ?_
    refine And.intro rfl (And.intro rfl (And.intro (vp_in_nI (by show plF (nms ks) w < 4700; omega) (by decide)) (And.intro (Nat.le_of_ble_eq_true rfl) ?_)))
    refine And.intro rfl (And.intro rfl (And.intro rfl (And.intro vk (And.intro rfl (And.intro rfl (And.intro vk (And.intro rfl (And.intro rfl (And.intro rfl (And.intro va (And.intro rfl (And.intro rfl (And.intro va ?_)))))))))))))
    have hc := c_cmpR (Y := Y) (d := d + 1) ty hk.2.1 hh har hw
    rw [← i3, ← i2] at hc
    refine And.intro (Nat.le_of_ble_eq_true rfl) (And.intro (Nat.le_of_ble_eq_true rfl) (And.intro (Nat.le_of_ble_eq_true rfl) (mjY_mono ty (fun v u2 ty2 h2 => ?_) hc)))
    obtain ⟨rfl, r, rfl, hr⟩ := h2
    intro _
    have r0 : (0 : Int32).toInt = 0 := by decide
    refine And.intro (fun cz => ?_) (fun cz => ?_)
    · have cz : r = 0 := cz
      rw [cz, r0] at hr
      rw [if_pos hr.symm] at ek
      refine mjZ_re rfl rfl 2 ty ?_
      refine And.intro rfl (And.intro (Or.inl rfl) (And.intro ?_ rfl))
      rw [ek]
      exact congrArg (fun t => some (Value.int t)) ev
    · have cz : ¬ cmpW xr.2.1 w = 0 := fun q => cz (Int32.toInt_inj.mp (by rw [hr, q, r0]))
      rw [if_neg cz] at ek
      refine mjZ_re rfl rfl 2 ty ?_
      refine And.intro rfl (And.intro (Or.inl rfl) (And.intro ?_ rfl))
      rw [ek]; rfl
  · have c2 : plF (nms ks) w = ks.length := by
      have c : nI (plF (nms ks) w) = u1.1 f_keys := Decidable.of_not_not c
      rw [e3] at c
      exact (nI_eq (by omega) (by omega)).mp c
    have ek : kyF ks w = none := by unfold kyF; rw [List.getElem?_eq_none (by omega)]
    refine mjZ_re rfl rfl 2 ty ?_
    refine And.intro rfl (And.intro (Or.inl rfl) (And.intro ?_ rfl))
    rw [ek]; rfl
end PLACE
