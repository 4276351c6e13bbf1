/-! One attribute of a key or of an element changes. -/
section ATTR
variable {Y : Nat → MethodName × ByteArray} {d : Nat}
abbrev atR : List Nat := [r_kSort, r_kTimed, r_kTime]
theorem ks_attr {v u : mjS} {hs : Nat} {A B : List KR} {x : KR} {fk fe : List Nat} (h : KS v hs (A ++ x :: B) fk fe) (f : Fr [] atR v u) (hj : ∀ j, j ≠ x.1 → (∀ g ∈ atR, u.2.2.1 g j = v.2.2.1 g j) ∧ u.2.2.2 r_kTime j = v.2.2.2 r_kTime j) : KS u hs (A ++ (x.1, x.2.1, u.2.2.1 r_kSort x.1, u.2.2.1 r_kTimed x.1, u.2.2.2 r_kTime x.1, x.2.2.2.2.2.1, x.2.2.2.2.2.2) :: B) fk fe := by
  have h0 := h
  obtain ⟨a1, a2, a3, a4, a5, a6, a7, a8, a9, a10, a11, a12, a13, a14, a15, a16, a17⟩ := h
  have hx : x ∈ A ++ x :: B := List.mem_append_right _ List.mem_cons_self
  obtain ⟨k1, k2, k3, k4, k5, k6, k7, k8, k9, k10, k11⟩ := a5 x hx
  have fd : ∀ g, u.1 g = v.1 g := fun g => f.1 g (fun q => by cases q)
  have row : ∀ g, g ∉ atR → u.2.2.1 g = v.2.2.1 g := fun g hg => (f.2.2 g hg).1
  have aE : ∀ j, AgE v u j := fun j => ⟨fun g hg => by rw [row g ((by decide : ∀ g ∈ eRows, g ∉ atR) g hg)], by rw [(f.2.2 r_eScore (by decide)).2]⟩
  have aH : AgH v u hs := fun j _ => by rw [row r_heap (by decide)]
  refine KS.one h0 (x' := (x.1, x.2.1, u.2.2.1 r_kSort x.1, u.2.2.1 r_kTimed x.1, u.2.2.2 r_kTime x.1, x.2.2.2.2.2.1, x.2.2.2.2.2.2)) rfl ((fd _).trans a1) (Nat.le_refl _) a2 (fd _) (fd _) ((fd _).trans a14) (row _ (by decide)) (row _ (by decide)) ?_ (fun j _ _ => aE j) aH ?_ (List.Perm.refl _) (FSEG.fr a15 (fun j _ => by rw [row r_eNext (by decide)])) ?_
  · intro j hne
    refine ⟨fun g hg => ?_, (hj j hne).2⟩
    rcases (by decide : ∀ g ∈ kRows, g ∈ atR ∨ g ∉ atR) g hg with c | c
    · exact (hj j hne).1 g c
    · rw [row g c]
  · exact ⟨k1, k2.fr (by rw [row r_kAt (by decide)]) (by rw [row r_kLen (by decide)]) aH (Nat.le_refl _), rfl, rfl, rfl, k6.fr (by rw [row r_tAt (by decide)]) (by rw [row r_tLen (by decide)]) aH (Nat.le_refl _), by rw [row r_kHead (by decide)]; exact k7, by rw [row r_kTail (by decide)]; exact k8, by rw [row r_kMany (by decide)]; exact k9, k10.fr (fun e _ => aE e), fun y hy => (k11 y hy).fr (aE _) aH (Nat.le_refl _)⟩
  · intro j hj
    obtain ⟨⟨p, p1, p2⟩, q, q1, q2⟩ := a16 j hj
    exact ⟨⟨p, p1, by rw [row r_eAt (by decide)]; exact p2⟩, q, q1, by rw [row r_vAt (by decide)]; exact q2⟩
abbrev etR : List Nat := [r_eLen, r_vLen, r_eScore]
theorem ks_eattr {v u : mjS} {hs : Nat} {A B : List KR} {x : KR} {fk fe : List Nat} {y y' : ER} {E1 E2 : List ER} (h : KS v hs (A ++ x :: B) fk fe) (he : x.2.2.2.2.2.2 = E1 ++ y :: E2) (f : Fr [] etR v u) (hj : ∀ j, j ≠ y.1 → (∀ g ∈ etR, u.2.2.1 g j = v.2.2.1 g j) ∧ u.2.2.2 r_eScore j = v.2.2.2 r_eScore j) (e1 : y'.1 = y.1) (hy : EOK u hs y') : KS u hs (A ++ withE x (E1 ++ y' :: E2) :: B) fk fe := by
  have h0 := h
  obtain ⟨a1, a2, a3, a4, a5, a6, a7, a8, a9, a10, a11, a12, a13, a14, a15, a16, a17⟩ := h
  have hx : x ∈ A ++ x :: B := List.mem_append_right _ List.mem_cons_self
  obtain ⟨k1, k2, k3, k4, k5, k6, k7, k8, k9, k10, k11⟩ := a5 x hx
  have fd : ∀ g, u.1 g = v.1 g := fun g => f.1 g (fun q => by cases q)
  have row : ∀ g, g ∉ etR → u.2.2.1 g = v.2.2.1 g := fun g hg => (f.2.2 g hg).1
  have aK : ∀ j, AgK v u j := fun j => ⟨fun g hg => by rw [row g ((by decide : ∀ g ∈ kRows, g ∉ etR) g hg)], by rw [(f.2.2 r_kTime (by decide)).2]⟩
  have aE : ∀ j, j ≠ y.1 → AgE v u j := fun j hne => ⟨fun g hg => by
    rcases (by decide : ∀ g ∈ eRows, g ∈ etR ∨ g ∉ etR) g hg with c | c
    · exact (hj j hne).1 g c
    · rw [row g c], (hj j hne).2⟩
  have aH : AgH v u hs := fun j _ => by rw [row r_heap (by decide)]
  have ei : ids (E1 ++ y' :: E2) = ids (E1 ++ y :: E2) := by rw [ids_app, ids_app, ids_cons, ids_cons, e1]
  have nd : (ids (E1 ++ y :: E2)).Nodup := by
    rw [eIds_app, eIds_cons, he] at a11
    exact (List.nodup_append.mp (List.nodup_append.mp (List.nodup_append.mp a11).1).2.1).1
  have ne : ∀ z, z ∈ E1 ∨ z ∈ E2 → z.1 ≠ y.1 := by
    intro z hz q
    rw [ids_app, ids_cons] at nd
    have n := List.nodup_append.mp nd
    rcases hz with hz | hz
    · exact n.2.2 z.1 (List.mem_map.mpr ⟨z, hz, rfl⟩) y.1 List.mem_cons_self q
    · exact (List.nodup_cons.mp n.2.1).1 (q ▸ List.mem_map.mpr ⟨z, hz, rfl⟩)
  refine KS.one h0 (x' := withE x (E1 ++ y' :: E2)) rfl ((fd _).trans a1) (Nat.le_refl _) a2 (fd _) (fd _) ((fd _).trans a14) (row _ (by decide)) (row _ (by decide)) (fun j _ => aK j) ?_ aH ?_ ?_ (FSEG.fr a15 (fun j _ => by rw [row r_eNext (by decide)])) ?_
  · intro j h1 _
    refine aE j (fun q => h1 ?_)
    rw [he, ids_app, ids_cons, q]; exact List.mem_append_right _ List.mem_cons_self
  · have ek : ids (withE x (E1 ++ y' :: E2)).2.2.2.2.2.2 = ids x.2.2.2.2.2.2 := by rw [he]; exact ei
    have el : (withE x (E1 ++ y' :: E2)).2.2.2.2.2.2.length = x.2.2.2.2.2.2.length := by
      rw [he]; show (E1 ++ y' :: E2).length = _; rw [List.length_append, List.length_append, List.length_cons, List.length_cons]
    refine ⟨k1, k2.fr (by rw [row r_kAt (by decide)]) (by rw [row r_kLen (by decide)]) aH (Nat.le_refl _), by rw [row r_kSort (by decide)]; exact k3, by rw [row r_kTimed (by decide)]; exact k4, by rw [(f.2.2 r_kTime (by decide)).2]; exact k5, k6.fr (by rw [row r_tAt (by decide)]) (by rw [row r_tLen (by decide)]) aH (Nat.le_refl _), ?_, ?_, ?_, ?_, ?_⟩
    · rw [row r_kHead (by decide), ek]; exact k7
    · rw [row r_kTail (by decide), ek]; exact k8
    · rw [row r_kMany (by decide), el]; exact k9
    · rw [ek]; exact seg_same k10 (row r_ePrev (by decide)) (row r_eNext (by decide))
    · intro z hz
      rcases List.mem_append.mp hz with hz | hz
      · exact (k11 z (by rw [he]; exact List.mem_append_left _ hz)).fr (aE _ (ne z (Or.inl hz))) aH (Nat.le_refl _)
      · rcases List.mem_cons.mp hz with rfl | hz
        · exact hy
        · exact (k11 z (by rw [he]; exact List.mem_append_right _ (List.mem_cons_of_mem _ hz))).fr (aE _ (ne z (Or.inr hz))) aH (Nat.le_refl _)
  · rw [he]; show (ids (E1 ++ y' :: E2) ++ fe).Perm _
    rw [ei]
  · intro j hj
    obtain ⟨⟨p, p1, p2⟩, q, q1, q2⟩ := a16 j hj
    exact ⟨⟨p, p1, by rw [row r_eAt (by decide)]; exact p2⟩, q, q1, by rw [row r_vAt (by decide)]; exact q2⟩
end ATTR
