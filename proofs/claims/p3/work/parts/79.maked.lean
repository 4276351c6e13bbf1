/-! makeKey as a whole. -/
section MAKED
variable {Y : Nat → MethodName × ByteArray} {d : Nat}
abbrev maH : List Nat := [r_order, r_heap, r_heap2, r_kAt, r_kLen, r_kSort, r_kHead, r_kTail, r_kMany, r_tAt, r_tLen, r_kTimed, r_kTime, r_eAt, r_vAt]
set_option maxRecDepth 100000 in
theorem c_make_1 (K : mjK) {v : mjS} {hs k : Nat} {ks : List KR} {fk fe : List Nat} (h : KS v hs ks (fk ++ [k]) fe) {ws : List (List Int32)} (har : AR v ws) (i p : Nat) (w : List Int32) (hw : ws[i]? = some w) (s : Int32) (hp : p ≤ ks.length) (hn : hs + w.length ≤ 300000) (ty : mjTY v)
    (hK : ∀ u, Fr [f_heapSize, f_keys, f_kFrees] maH v u → KS u (hs + w.length) (ks.take p ++ (k, w, s, 0, 0, [], []) :: ks.drop p) fk fe → K (some (.int (nI k))) u) :
    mjY mjPP (mjQQ Y) (d + 1) 12 10 [some (.ref 0), some (.int (nI i)), some (.int s), some (.int (nI p)), none, none] [] v K := by
  have hl := ks_len h
  rw [List.length_append] at hl
  have hl : ks.length + (fk.length + 1) = 4700 := hl
  have hi0 : i < ws.length := (List.getElem?_eq_some_iff.mp hw).1
  have h1024 := har.2.1
  obtain ⟨a, eA, eL, han, ew⟩ := har.2.2 i w hw
  have hk : k < 4700 := h.2.2.2.2.2.2.2.2.1 k (List.mem_append_right _ (List.mem_append_right _ List.mem_cons_self))
  have e6 : v.1 f_kFrees = nI (fk.length + 1) := by have z := h.2.2.2.2.2.1; rw [List.length_append] at z; exact z
  have e7 : v.2.2.1 r_kFree fk.length = nI k := h.2.2.2.2.2.2.1 fk.length k (by rw [List.getElem?_append_right (Nat.le_refl _), Nat.sub_self]; rfl)
  have eF : upd v.1 f_kFrees (v.1 f_kFrees - 1) f_kFrees = nI fk.length := by rw [pk_us, e6, show (1 : Int32) = nI 1 from rfl, pk_sub (by omega)]; rfl
  have h' : KS v hs (ks.take p ++ ks.drop p) (fk ++ [k]) fe := by rw [List.take_append_drop]; exact h
  have lA : (ks.take p).length = p := by rw [List.length_take]; omega
  refine mjZ_y rfl rfl 15 _ _ _ _ ty ?_
  refine And.intro rfl (And.intro rfl (And.intro (Or.inl rfl) (fun ty2 => ?_)))
  refine And.intro rfl (And.intro rfl (And.intro rfl (And.intro (show vp_in (upd v.1 f_kFrees (v.1 f_kFrees - 1) f_kFrees) 4700 by rw [eF]; exact vp_in_nI (by omega) (by decide)) (And.intro (Nat.le_of_ble_eq_true rfl) ?_))))
  refine And.intro rfl (And.intro (Nat.le_of_ble_eq_true rfl) ?_)
  have go : ∀ v2 : mjS, mjTY v2 → v2 = (upd v.1 f_kFrees (v.1 f_kFrees - 1), v.2) → ∀ x4 x5, x4 = nI k → x5 = nI ks.length → mjY mjPP (mjQQ Y) (d + 1) 12 25 [some (.ref 0), some (.int (nI i)), some (.int s), some (.int (nI p)), some (.int x4), some (.int x5)] [] v2 K := by
    intro v2 t2 ev x4 x5 e4 e5
    subst e4
    have f2 : Fr [f_heapSize, f_keys, f_kFrees] maH v v2 := by rw [ev]; exact Fr.i (by decide)
    have r2 : v2.2 = v.2 := by rw [ev]
    refine c_make_sh K p ks.length (by omega) _ _ _ (v.2.2.1 r_order) (ks.length - p) ks.length v2 x5 e5 (by omega) (Nat.le_refl _) t2 (fun j => by rw [r2, if_neg (by omega)]) (fun u3 l5 t3 f3 o3 => ?_)
    have row3 : ∀ g, g ≠ r_order → u3.2.2.1 g = v.2.2.1 g := fun g hg => by rw [(f3.2.2 g (fun q => hg (List.mem_singleton.mp q))).1, r2]
    have lon3 : ∀ g, g ≠ r_order → u3.2.2.2 g = v.2.2.2 g := fun g hg => by rw [(f3.2.2 g (fun q => hg (List.mem_singleton.mp q))).2, r2]
    have fld3 : ∀ g, g ≠ f_kFrees → u3.1 g = v.1 g := fun g hg => by rw [f3.1 g (fun q => by cases q), ev]; show upd v.1 f_kFrees _ g = _; exact pk_un hg
    refine c_make_2 K i k p w.length a hs s l5 u3 t3 (by omega) hk (by omega) (by rw [row3 r_aAt (by decide)]; exact eA) (by rw [row3 r_aLen (by decide)]; exact eL) han (by rw [fld3 f_heapSize (by decide)]; exact h.1) hn (fun u hm => ?_)
    obtain ⟨m1, m2, m3, m4, m5, m6, m7, m8, m9, m10, m11, m12, m13, m14, m15, m16, m17⟩ := hm
    refine hK u ((f2.tr (f3.up (fun _ q => by cases q) (by decide))).tr (m1.up (by decide) (by decide))) ?_
    refine ks_make (x := (k, w, s, 0, 0, [], [])) h' hn m3 (fun j hj => by rw [m5 j hj, row3 r_heap (by decide)]) ?_ ?_ ?_ (fun j => ?_) ?_ (fun j hj => ?_) (fun j => ?_) ?_ rfl
    · rw [m2, fld3 f_keys (by decide), List.take_append_drop, h.2.2.1, nI_1]
    · rw [m1.1 f_kFrees (by decide), f3.1 f_kFrees (by decide), ev]; exact eF
    · rw [m1.1 f_eFree (by decide), fld3 f_eFree (by decide)]
    · rw [m4, lA, List.take_append_drop, o3]
    · rw [(m1.2.2 r_kFree (by decide)).1, row3 r_kFree (by decide)]
    · refine ⟨fun g hg => ?_, by rw [m17, if_neg hj, lon3 r_kTime (by decide)]⟩
      rw [m7 g j hj ((by decide : ∀ g ∈ kRows, g ≠ r_order) g hg) ((by decide : ∀ g ∈ kRows, g ≠ r_heap) g hg), row3 g ((by decide : ∀ g ∈ kRows, g ≠ r_order) g hg)]
    · refine ⟨fun g hg => ?_, by rw [(m1.2.2 r_eScore (by decide)).2, lon3 r_eScore (by decide)]⟩
      rw [(m1.2.2 g ((by decide : ∀ g ∈ eRows, g ∉ mkH) g hg)).1, row3 g ((by decide : ∀ g ∈ eRows, g ≠ r_order) g hg)]
    · refine ⟨hk, ⟨hs, h.2.1, m8, m9, Or.inr ⟨Nat.le_refl _, ?_⟩⟩, m10, m16, by rw [m17, if_pos rfl], ⟨0, by decide, m14, m15, Or.inl rfl⟩, m11, m12, m13, trivial, fun y hy => by cases hy⟩
      show wd (u.2.2.1 r_heap) hs w.length = w
      rw [m6, row3 r_req (by decide)]; exact ew
  refine go _ ty2 rfl _ _ ?_ ?_
  · show v.2.2.1 r_kFree (upd v.1 f_kFrees (v.1 f_kFrees - 1) f_kFrees).toNatClampNeg = _
    rw [eF, nI_clamp (by omega)]; exact e7
  · show upd v.1 f_kFrees (v.1 f_kFrees - 1) f_keys = _
    rw [pk_un (by decide)]; exact h.2.2.1
set_option maxRecDepth 100000 in
theorem c_makeKey {σ : mjS} {hs k : Nat} {ks : List KR} {fk fe : List Nat} (h : KS σ hs ks (fk ++ [k]) fe) {ws : List (List Int32)} (har : AR σ ws) (i : Nat) (w : List Int32) (hw : ws[i]? = some w) (s : Int32) (ht : tot ks ≤ 200000) (hn : tot ks + w.length ≤ 300000) (ty : mjTY σ) :
    mjY mjPP (mjQQ Y) (d + 3) 12 0 (mjL0 6 [.ref 0, .int (nI i), .int s]) [] σ (fun r u => r = some (.int (nI k)) ∧ Fr [f_heapSize, f_keys, f_kFrees] maH σ u ∧ ∃ hs', KS u hs' (ks.take (plF (nms ks) w) ++ (k, w, s, 0, 0, [], []) :: ks.drop (plF (nms ks) w)) fk fe) := by
  have hi0 : i < ws.length := (List.getElem?_eq_some_iff.mp hw).1
  have h1024 := har.2.1
  have ic : (nI i).toNatClampNeg = i := nI_clamp (by omega)
  have iv : vp_in (nI i) 1100 := vp_in_nI (by omega) (by decide)
  have hp := plF_le (nms ks) w
  rw [show (nms ks).length = ks.length by unfold nms; rw [List.length_map]] at hp
  obtain ⟨a, eA, eL, han, ew⟩ := har.2.2 i w hw
  have fL : σ.2.2.1 r_aLen (nI i).toNatClampNeg = nI w.length := by rw [ic]; exact eL
  have hc := c_room (Y := Y) (d := d) h ht w.length hn ty
  rw [← fL] at hc
  refine mjZ_y rfl rfl 10 _ _ _ _ ty ?_
  refine And.intro rfl (And.intro rfl (And.intro iv ?_))
  refine And.intro (Nat.le_of_ble_eq_true rfl) (And.intro rfl (And.intro (Nat.le_of_ble_eq_true rfl) (And.intro (Nat.le_of_ble_eq_true rfl) (mjY_mono ty (fun r v ty1 h1 => ?_) hc))))
  obtain ⟨rfl, f1, hs', k1, n1⟩ := h1
  intro _
  have har1 : AR v ws := har.fr f1 (by decide) (by decide) (by decide) (by decide)
  refine And.intro (Nat.le_of_ble_eq_true rfl) (And.intro rfl (And.intro (Nat.le_of_ble_eq_true rfl) (And.intro (Nat.le_of_ble_eq_true rfl) (mjY_mono ty1 (fun r v2 ty2 h2 => ?_) (c_place (Y := Y) (d := d + 1) k1 har1 i w hw ty1)))))
  obtain ⟨rfl, rfl⟩ := h2
  intro _
  refine And.intro (Nat.le_of_ble_eq_true rfl) ?_
  exact c_make_1 (d := d + 2) _ k1 har1 i _ w hw s hp n1 ty1 (fun u fu ku => ⟨rfl, (f1.up (by decide) (by decide)).tr fu, _, ku⟩)
end MAKED
