/-! What keep, name and give make of the store. -/
section WRITE2
variable {Y : Nat → MethodName × ByteArray} {d : Nat}
/-- a key's record with another text -/
def withT (x : KR) (w : List Int32) : KR := (x.1, x.2.1, x.2.2.1, x.2.2.2.1, x.2.2.2.2.1, w, x.2.2.2.2.2.2)
theorem ks_keep {v u : mjS} {hs : Nat} {A B : List KR} {x : KR} {fk fe : List Nat} {w : List Int32} (h : KS v hs (A ++ x :: B) fk fe) (hw : WR v u r_tAt r_tLen x.1 hs w) (hh : hs + w.length ≤ 300000) : KS u (hs + w.length) (A ++ withT x w :: B) fk fe := by
  have h0 := h
  obtain ⟨a1, a2, a3, a4, a5, a6, a7, a8, a9, a10, a11, a12, a13, a14, a15, a16, a17⟩ := h
  have hx : x ∈ A ++ x :: B := List.mem_append_right _ List.mem_cons_self
  obtain ⟨k1, k2, k3, k4, k5, k6, k7, k8, k9, k10, k11⟩ := a5 x hx
  have rg := hw.rg a2
  obtain ⟨f, e1, aH, -, eA, eL⟩ := hw
  have row : ∀ g, g ∉ [r_heap, r_tAt, r_tLen] → u.2.2.1 g = v.2.2.1 g := fun g hg => (f.2.2 g hg).1
  have aE : ∀ j, AgE v u j := fun j => ⟨fun g hg => by rw [row g ((by decide : ∀ g ∈ eRows, g ∉ [r_heap, r_tAt, r_tLen]) g hg)], by rw [(f.2.2 r_eScore (by decide)).2]⟩
  refine KS.one h0 (x' := withT x w) rfl e1 (Nat.le_add_right _ _) hh (f.1 _ (by decide)) (f.1 _ (by decide)) ((f.1 _ (by decide)).trans a14) (row _ (by decide)) (row _ (by decide)) ?_ (fun j _ _ => aE j) aH ?_ (List.Perm.refl _) (FSEG.fr a15 (fun j _ => by rw [row r_eNext (by decide)])) ?_
  · intro j hj
    refine ⟨fun g hg => ?_, by rw [(f.2.2 r_kTime (by decide)).2]⟩
    rcases (by decide : ∀ g ∈ kRows, g = r_tAt ∨ g = r_tLen ∨ g ∉ [r_heap, r_tAt, r_tLen]) g hg with rfl | rfl | c
    · rw [eA, if_neg hj]
    · rw [eL, if_neg hj]
    · rw [row g c]
  · exact ⟨k1, k2.fr (by rw [row r_kAt (by decide)]) (by rw [row r_kLen (by decide)]) aH (Nat.le_add_right _ _), by rw [row r_kSort (by decide)]; exact k3, by rw [row r_kTimed (by decide)]; exact k4, by rw [(f.2.2 r_kTime (by decide)).2]; exact k5, rg, by rw [row r_kHead (by decide)]; exact k7, by rw [row r_kTail (by decide)]; exact k8, by rw [row r_kMany (by decide)]; exact k9, k10.fr (fun e _ => aE e), fun y hy => (k11 y hy).fr (aE _) aH (Nat.le_add_right _ _)⟩
  · intro j hj
    obtain ⟨⟨p, p1, p2⟩, q, q1, q2⟩ := a16 j hj
    exact ⟨⟨p, p1, by rw [row r_eAt (by decide)]; exact p2⟩, q, q1, by rw [row r_vAt (by decide)]; exact q2⟩
theorem ks_name {v u : mjS} {hs : Nat} {A B : List KR} {x : KR} {fk fe : List Nat} {y : ER} {E1 E2 : List ER} {w : List Int32} (h : KS v hs (A ++ x :: B) fk fe) (he : x.2.2.2.2.2.2 = E1 ++ y :: E2) (hw : WR v u r_eAt r_eLen y.1 hs w) (hh : hs + w.length ≤ 300000) : KS u (hs + w.length) (A ++ withE x (E1 ++ (y.1, w, y.2.2.1, y.2.2.2) :: E2) :: B) fk fe := by
  have h0 := h
  obtain ⟨a1, a2, a3, a4, a5, a6, a7, a8, a9, a10, a11, a12, a13, a14, a15, a16, a17⟩ := h
  have hx : x ∈ A ++ x :: B := List.mem_append_right _ List.mem_cons_self
  obtain ⟨k1, k2, k3, k4, k5, k6, k7, k8, k9, k10, k11⟩ := a5 x hx
  have rg := hw.rg a2
  obtain ⟨f, e1, aH, -, eA, eL⟩ := hw
  have row : ∀ g, g ∉ [r_heap, r_eAt, r_eLen] → u.2.2.1 g = v.2.2.1 g := fun g hg => (f.2.2 g hg).1
  have ei : ids x.2.2.2.2.2.2 = ids E1 ++ y.1 :: ids E2 := by rw [he, ids_app, ids_cons]
  have ej : ids (E1 ++ (y.1, w, y.2.2.1, y.2.2.2) :: E2) = ids x.2.2.2.2.2.2 := by rw [ei, ids_app, ids_cons]
  have my : y.1 ∈ ids x.2.2.2.2.2.2 := by rw [ei]; exact List.mem_append_right _ List.mem_cons_self
  have n0 := List.nodup_append.mp a11
  have nds : (ids E1 ++ y.1 :: ids E2).Nodup := by
    have z := n0.1
    rw [eIds_app, eIds_cons, ei] at z
    exact (List.nodup_append.mp (List.nodup_append.mp z).2.1).1
  have n2 := List.nodup_append.mp nds
  have aE : ∀ j, j ≠ y.1 → AgE v u j := fun j hj => ⟨fun g hg => by
    rcases (by decide : ∀ g ∈ eRows, g = r_eAt ∨ g = r_eLen ∨ g ∉ [r_heap, r_eAt, r_eLen]) g hg with rfl | rfl | c
    · rw [eA, if_neg hj]
    · rw [eL, if_neg hj]
    · rw [row g c], by rw [(f.2.2 r_eScore (by decide)).2]⟩
  refine KS.one h0 (x' := withE x (E1 ++ (y.1, w, y.2.2.1, y.2.2.2) :: E2)) rfl e1 (Nat.le_add_right _ _) hh (f.1 _ (by decide)) (f.1 _ (by decide)) ((f.1 _ (by decide)).trans a14) (row _ (by decide)) (row _ (by decide)) ?_ (fun j hj _ => aE j (fun q => hj (by rw [q]; exact my))) aH ?_ ?_ (FSEG.fr a15 (fun j _ => by rw [row r_eNext (by decide)])) ?_
  · intro j hj
    exact ⟨fun g hg => by rw [row g ((by decide : ∀ g ∈ kRows, g ∉ [r_heap, r_eAt, r_eLen]) g hg)], by rw [(f.2.2 r_kTime (by decide)).2]⟩
  · refine ⟨k1, k2.fr (by rw [row r_kAt (by decide)]) (by rw [row r_kLen (by decide)]) aH (Nat.le_add_right _ _), by rw [row r_kSort (by decide)]; exact k3, by rw [row r_kTimed (by decide)]; exact k4, by rw [(f.2.2 r_kTime (by decide)).2]; exact k5, k6.fr (by rw [row r_tAt (by decide)]) (by rw [row r_tLen (by decide)]) aH (Nat.le_add_right _ _), ?_, ?_, ?_, ?_, fun z hz => ?_⟩
    · show u.2.2.1 r_kHead x.1 = nx (ids (E1 ++ (y.1, w, y.2.2.1, y.2.2.2) :: E2))
      rw [ej, row r_kHead (by decide)]; exact k7
    · show u.2.2.1 r_kTail x.1 = lst (-1) (ids (E1 ++ (y.1, w, y.2.2.1, y.2.2.2) :: E2))
      rw [ej, row r_kTail (by decide)]; exact k8
    · show u.2.2.1 r_kMany x.1 = nI (E1 ++ (y.1, w, y.2.2.1, y.2.2.2) :: E2).length
      rw [row r_kMany (by decide), k9, he]; exact congrArg nI (by simp only [List.length_append, List.length_cons])
    · show SEG u (-1) (ids (E1 ++ (y.1, w, y.2.2.1, y.2.2.2) :: E2)) (-1)
      rw [ej]
      exact seg_same k10 (row r_ePrev (by decide)) (row r_eNext (by decide))
    · rcases List.mem_append.mp hz with hz | hz
      · have mz : z.1 ∈ ids E1 := List.mem_map.mpr ⟨z, hz, rfl⟩
        exact (k11 z (by rw [he]; exact List.mem_append_left _ hz)).fr (aE _ (n2.2.2 z.1 mz y.1 List.mem_cons_self)) aH (Nat.le_add_right _ _)
      · rcases List.mem_cons.mp hz with rfl | hz
        · obtain ⟨y1, y2, y3, y4⟩ := k11 y (by rw [he]; exact List.mem_append_right _ List.mem_cons_self)
          exact ⟨y1, rg, y3.fr (by rw [row r_vAt (by decide)]) (by rw [row r_vLen (by decide)]) aH (Nat.le_add_right _ _), by rw [(f.2.2 r_eScore (by decide)).2]; exact y4⟩
        · have mz : z.1 ∈ ids E2 := List.mem_map.mpr ⟨z, hz, rfl⟩
          exact (k11 z (by rw [he]; exact List.mem_append_right _ (List.mem_cons_of_mem _ hz))).fr (aE _ (fun q => (List.nodup_cons.mp n2.2.1).1 (q ▸ mz))) aH (Nat.le_add_right _ _)
  · show (ids (E1 ++ (y.1, w, y.2.2.1, y.2.2.2) :: E2) ++ fe).Perm (ids x.2.2.2.2.2.2 ++ fe)
    rw [ej]
  · intro j hj
    have ne : j ≠ y.1 := fun q => n0.2.2 y.1 (mem_eIds hx my) j hj q.symm
    have ag := aE j ne
    obtain ⟨⟨p, p1, p2⟩, q, q1, q2⟩ := a16 j hj
    exact ⟨⟨p, p1, by rw [ag.1 r_eAt (by decide)]; exact p2⟩, q, q1, by rw [ag.1 r_vAt (by decide)]; exact q2⟩
theorem ks_give {v u : mjS} {hs : Nat} {A B : List KR} {x : KR} {fk fe : List Nat} {y : ER} {E1 E2 : List ER} {w : List Int32} (h : KS v hs (A ++ x :: B) fk fe) (he : x.2.2.2.2.2.2 = E1 ++ y :: E2) (hw : WR v u r_vAt r_vLen y.1 hs w) (hh : hs + w.length ≤ 300000) : KS u (hs + w.length) (A ++ withE x (E1 ++ (y.1, y.2.1, w, y.2.2.2) :: E2) :: B) fk fe := by
  have h0 := h
  obtain ⟨a1, a2, a3, a4, a5, a6, a7, a8, a9, a10, a11, a12, a13, a14, a15, a16, a17⟩ := h
  have hx : x ∈ A ++ x :: B := List.mem_append_right _ List.mem_cons_self
  obtain ⟨k1, k2, k3, k4, k5, k6, k7, k8, k9, k10, k11⟩ := a5 x hx
  have rg := hw.rg a2
  obtain ⟨f, e1, aH, -, eA, eL⟩ := hw
  have row : ∀ g, g ∉ [r_heap, r_vAt, r_vLen] → u.2.2.1 g = v.2.2.1 g := fun g hg => (f.2.2 g hg).1
  have ei : ids x.2.2.2.2.2.2 = ids E1 ++ y.1 :: ids E2 := by rw [he, ids_app, ids_cons]
  have ej : ids (E1 ++ (y.1, y.2.1, w, y.2.2.2) :: E2) = ids x.2.2.2.2.2.2 := by rw [ei, ids_app, ids_cons]
  have my : y.1 ∈ ids x.2.2.2.2.2.2 := by rw [ei]; exact List.mem_append_right _ List.mem_cons_self
  have n0 := List.nodup_append.mp a11
  have nds : (ids E1 ++ y.1 :: ids E2).Nodup := by
    have z := n0.1
    rw [eIds_app, eIds_cons, ei] at z
    exact (List.nodup_append.mp (List.nodup_append.mp z).2.1).1
  have n2 := List.nodup_append.mp nds
  have aE : ∀ j, j ≠ y.1 → AgE v u j := fun j hj => ⟨fun g hg => by
    rcases (by decide : ∀ g ∈ eRows, g = r_vAt ∨ g = r_vLen ∨ g ∉ [r_heap, r_vAt, r_vLen]) g hg with rfl | rfl | c
    · rw [eA, if_neg hj]
    · rw [eL, if_neg hj]
    · rw [row g c], by rw [(f.2.2 r_eScore (by decide)).2]⟩
  refine KS.one h0 (x' := withE x (E1 ++ (y.1, y.2.1, w, y.2.2.2) :: E2)) rfl e1 (Nat.le_add_right _ _) hh (f.1 _ (by decide)) (f.1 _ (by decide)) ((f.1 _ (by decide)).trans a14) (row _ (by decide)) (row _ (by decide)) ?_ (fun j hj _ => aE j (fun q => hj (by rw [q]; exact my))) aH ?_ ?_ (FSEG.fr a15 (fun j _ => by rw [row r_eNext (by decide)])) ?_
  · intro j hj
    exact ⟨fun g hg => by rw [row g ((by decide : ∀ g ∈ kRows, g ∉ [r_heap, r_vAt, r_vLen]) g hg)], by rw [(f.2.2 r_kTime (by decide)).2]⟩
  · refine ⟨k1, k2.fr (by rw [row r_kAt (by decide)]) (by rw [row r_kLen (by decide)]) aH (Nat.le_add_right _ _), by rw [row r_kSort (by decide)]; exact k3, by rw [row r_kTimed (by decide)]; exact k4, by rw [(f.2.2 r_kTime (by decide)).2]; exact k5, k6.fr (by rw [row r_tAt (by decide)]) (by rw [row r_tLen (by decide)]) aH (Nat.le_add_right _ _), ?_, ?_, ?_, ?_, fun z hz => ?_⟩
    · show u.2.2.1 r_kHead x.1 = nx (ids (E1 ++ (y.1, y.2.1, w, y.2.2.2) :: E2))
      rw [ej, row r_kHead (by decide)]; exact k7
    · show u.2.2.1 r_kTail x.1 = lst (-1) (ids (E1 ++ (y.1, y.2.1, w, y.2.2.2) :: E2))
      rw [ej, row r_kTail (by decide)]; exact k8
    · show u.2.2.1 r_kMany x.1 = nI (E1 ++ (y.1, y.2.1, w, y.2.2.2) :: E2).length
      rw [row r_kMany (by decide), k9, he]; exact congrArg nI (by simp only [List.length_append, List.length_cons])
    · show SEG u (-1) (ids (E1 ++ (y.1, y.2.1, w, y.2.2.2) :: E2)) (-1)
      rw [ej]
      exact seg_same k10 (row r_ePrev (by decide)) (row r_eNext (by decide))
    · rcases List.mem_append.mp hz with hz | hz
      · have mz : z.1 ∈ ids E1 := List.mem_map.mpr ⟨z, hz, rfl⟩
        exact (k11 z (by rw [he]; exact List.mem_append_left _ hz)).fr (aE _ (n2.2.2 z.1 mz y.1 List.mem_cons_self)) aH (Nat.le_add_right _ _)
      · rcases List.mem_cons.mp hz with rfl | hz
        · obtain ⟨y1, y2, y3, y4⟩ := k11 y (by rw [he]; exact List.mem_append_right _ List.mem_cons_self)
          exact ⟨y1, y2.fr (by rw [row r_eAt (by decide)]) (by rw [row r_eLen (by decide)]) aH (Nat.le_add_right _ _), rg, by rw [(f.2.2 r_eScore (by decide)).2]; exact y4⟩
        · have mz : z.1 ∈ ids E2 := List.mem_map.mpr ⟨z, hz, rfl⟩
          exact (k11 z (by rw [he]; exact List.mem_append_right _ (List.mem_cons_of_mem _ hz))).fr (aE _ (fun q => (List.nodup_cons.mp n2.2.1).1 (q ▸ mz))) aH (Nat.le_add_right _ _)
  · show (ids (E1 ++ (y.1, y.2.1, w, y.2.2.2) :: E2) ++ fe).Perm (ids x.2.2.2.2.2.2 ++ fe)
    rw [ej]
  · intro j hj
    have ne : j ≠ y.1 := fun q => n0.2.2 y.1 (mem_eIds hx my) j hj q.symm
    have ag := aE j ne
    obtain ⟨⟨p, p1, p2⟩, q, q1, q2⟩ := a16 j hj
    exact ⟨⟨p, p1, by rw [ag.1 r_eAt (by decide)]; exact p2⟩, q, q1, by rw [ag.1 r_vAt (by decide)]; exact q2⟩
end WRITE2
