/-! unlink: an element leaves a key. -/
section UNL
variable {Y : Nat → MethodName × ByteArray} {d : Nat}
/-- an element leaves -/
theorem seg_del {σ u : mjS} {l1 l2 : List Nat} {e : Nat} (h : SEG σ (-1) (l1 ++ e :: l2) (-1)) (nd : (l1 ++ e :: l2).Nodup)
    (hN : ∀ j, u.2.2.1 r_eNext j = if j = e then σ.1 f_eFree else if l1.getLast? = some j then hdq l2 (-1) else σ.2.2.1 r_eNext j)
    (hP : ∀ j, u.2.2.1 r_ePrev j = if l2.head? = some j then lst (-1) l1 else σ.2.2.1 r_ePrev j) : SEG u (-1) (l1 ++ l2) (-1) := by
  obtain ⟨h1, h2⟩ := seg_app.mp h
  have h3 := (seg_cons.mp h2).2.2
  have n := List.nodup_append.mp nd
  have n2 := List.nodup_cons.mp n.2.1
  have ne1 : ∀ j ∈ l1, j ≠ e := fun j hj => n.2.2 j hj e List.mem_cons_self
  have ne2 : ∀ j ∈ l2, j ≠ e := fun j hj q => n2.1 (q ▸ hj)
  refine seg_app.mpr ⟨?_, ?_⟩
  · refine seg_next h1 n.1 (fun j hj => ?_) (fun j hj => ?_)
    · rw [hP, if_neg (fun z => n.2.2 j hj j (List.mem_cons_of_mem _ (List.mem_of_head? z)) rfl)]
    · rw [hN, if_neg (ne1 j hj)]
  · refine seg_prev h3 n2.2 (fun j hj => ?_) (fun j hj => ?_)
    · rw [hN, if_neg (ne2 j hj), if_neg (fun z => n.2.2 j (List.mem_of_getLast? z) j (List.mem_cons_of_mem _ hj) rfl)]
    · rw [hP]
abbrev unH : List Nat := [r_kHead, r_kTail, r_kMany, r_eNext, r_ePrev]
theorem ks_unlink {σ u : mjS} {hs : Nat} {A B : List KR} {x : KR} {fk fe : List Nat} {y : ER} {E1 E2 : List ER} (h : KS σ hs (A ++ x :: B) fk fe) (he : x.2.2.2.2.2.2 = E1 ++ y :: E2) (f : Fr [f_eFree] unH σ u) (q1 : u.1 f_eFree = nI y.1) (qS : u.2.2.2 = σ.2.2.2)
    (hN : ∀ j, u.2.2.1 r_eNext j = if j = y.1 then σ.1 f_eFree else if (ids E1).getLast? = some j then hdq (ids E2) (-1) else σ.2.2.1 r_eNext j)
    (hP : ∀ j, u.2.2.1 r_ePrev j = if (ids E2).head? = some j then lst (-1) (ids E1) else σ.2.2.1 r_ePrev j)
    (hH : ∀ j, u.2.2.1 r_kHead j = if ids E1 = [] ∧ j = x.1 then hdq (ids E2) (-1) else σ.2.2.1 r_kHead j) (hT : ∀ j, u.2.2.1 r_kTail j = if ids E2 = [] ∧ j = x.1 then lst (-1) (ids E1) else σ.2.2.1 r_kTail j) (hM : ∀ j, u.2.2.1 r_kMany j = if j = x.1 then σ.2.2.1 r_kMany x.1 - 1 else σ.2.2.1 r_kMany j) :
    KS u hs (A ++ withE x (E1 ++ E2) :: B) fk (y.1 :: fe) := by
  have h0 := h
  obtain ⟨a1, a2, a3, a4, a5, a6, a7, a8, a9, a10, a11, a12, a13, a14, a15, a16, a17⟩ := h
  have hx : x ∈ A ++ x :: B := List.mem_append_right _ List.mem_cons_self
  have hk := a5 x hx
  have ei : ids x.2.2.2.2.2.2 = ids E1 ++ y.1 :: ids E2 := by rw [he, ids_app, ids_cons]
  have n0 := List.nodup_append.mp a11
  have mem : ∀ j, j ∈ ids E1 ++ y.1 :: ids E2 → j ∈ eIds (A ++ x :: B) := fun j hj => mem_eIds hx (by rw [ei]; exact hj)
  have nds : (ids E1 ++ y.1 :: ids E2).Nodup := by
    have z := n0.1
    rw [eIds_app, eIds_cons, ei] at z
    exact (List.nodup_append.mp (List.nodup_append.mp z).2.1).1
  have row : ∀ g, g ∉ unH → u.2.2.1 g = σ.2.2.1 g := fun g hg => (f.2.2 g hg).1
  obtain ⟨k1, k2, k3, k4, k5, k6, k7, k8, k9, k10, k11⟩ := hk
  have aH : AgH σ u hs := fun j _ => by rw [row r_heap (by decide)]
  have me1 : ∀ j, (ids E1).getLast? = some j → j ∈ ids E1 ++ y.1 :: ids E2 := fun j z => List.mem_append_left _ (List.mem_of_getLast? z)
  have me2 : ∀ j, (ids E2).head? = some j → j ∈ ids E1 ++ y.1 :: ids E2 := fun j z => List.mem_append_right _ (List.mem_cons_of_mem _ (List.mem_of_head? z))
  have mey : y.1 ∈ ids E1 ++ y.1 :: ids E2 := List.mem_append_right _ List.mem_cons_self
  refine KS.one h0 (x' := withE x (E1 ++ E2)) rfl ((f.1 _ (by decide)).trans a1) (Nat.le_refl _) a2 (f.1 _ (by decide)) (f.1 _ (by decide)) q1 (row _ (by decide)) (row _ (by decide)) ?_ ?_ aH ?_ ?_ ?_ ?_
  · intro j hj
    refine ⟨fun g hg => ?_, by rw [qS]⟩
    by_cases c : g ∈ unH
    · have c3 : g = r_kHead ∨ g = r_kTail ∨ g = r_kMany := (by decide : ∀ g ∈ kRows, g ∈ unH → g = r_kHead ∨ g = r_kTail ∨ g = r_kMany) g hg c
      rcases c3 with rfl | rfl | rfl
      · rw [hH, if_neg (fun z => hj z.2)]
      · rw [hT, if_neg (fun z => hj z.2)]
      · rw [hM, if_neg hj]
    · rw [row g c]
  · intro j hj hf
    rw [ei] at hj
    refine ⟨fun g hg => ?_, by rw [qS]⟩
    by_cases c : g ∈ unH
    · have c3 : g = r_eNext ∨ g = r_ePrev := (by decide : ∀ g ∈ eRows, g ∈ unH → g = r_eNext ∨ g = r_ePrev) g hg c
      rcases c3 with rfl | rfl
      · rw [hN, if_neg (fun z : j = y.1 => hj (z ▸ mey)), if_neg (fun z => hj (me1 j z))]
      · rw [hP, if_neg (fun z => hj (me2 j z))]
    · rw [row g c]
  · have eid : ids (E1 ++ E2) = ids E1 ++ ids E2 := ids_app _ _
    refine ⟨k1, k2.fr (by rw [row r_kAt (by decide)]) (by rw [row r_kLen (by decide)]) aH (Nat.le_refl _), by rw [row r_kSort (by decide)]; exact k3, by rw [row r_kTimed (by decide)]; exact k4, by rw [qS]; exact k5, k6.fr (by rw [row r_tAt (by decide)]) (by rw [row r_tLen (by decide)]) aH (Nat.le_refl _), ?_, ?_, ?_, ?_, ?_⟩
    · show u.2.2.1 r_kHead x.1 = nx (ids (E1 ++ E2))
      rw [eid, hH]
      rw [ei] at k7
      cases hc : ids E1 with
      | nil => rw [if_pos ⟨rfl, rfl⟩, List.nil_append, nx_hdq]
      | cons b r => rw [if_neg (fun z => by cases z.1), k7, hc]; rfl
    · show u.2.2.1 r_kTail x.1 = lst (-1) (ids (E1 ++ E2))
      rw [eid, hT, lst_app]
      rw [ei, lst_app] at k8
      cases hc : ids E2 with
      | nil => rw [if_pos ⟨rfl, rfl⟩]; rfl
      | cons b r => rw [if_neg (fun z => by cases z.1), k8, hc]; rfl
    · show u.2.2.1 r_kMany x.1 = nI (E1 ++ E2).length
      rw [hM, if_pos rfl, k9, he, show (1 : Int32) = nI 1 from rfl, pk_sub (by simp only [List.length_append, List.length_cons]; omega)]
      exact congrArg nI (by simp only [List.length_append, List.length_cons]; omega)
    · show SEG u (-1) (ids (E1 ++ E2)) (-1)
      rw [eid]
      exact seg_del (by rw [← ei]; exact k10) nds hN hP
    · intro z hz
      have hz2 : z ∈ E1 ++ y :: E2 := (List.mem_append.mp hz).elim (fun q => List.mem_append_left _ q) (fun q => List.mem_append_right _ (List.mem_cons_of_mem _ q))
      refine (k11 z (by rw [he]; exact hz2)).fr2 (fun g hg => ?_) (by rw [qS]) aH
      rw [row g ((by decide : ∀ g ∈ [r_eAt, r_eLen, r_vAt, r_vLen], g ∉ unH) g hg)]
  · show (ids (E1 ++ E2) ++ y.1 :: fe).Perm (ids x.2.2.2.2.2.2 ++ fe)
    rw [ei, ids_app, List.append_assoc, List.append_assoc]
    refine List.Perm.append_left _ ?_
    rw [List.cons_append]
    exact List.perm_middle
  · refine ⟨by rw [hN, if_pos rfl]; exact a14, FSEG.fr a15 (fun j hj => ?_)⟩
    rw [hN, if_neg (fun z : j = y.1 => n0.2.2 y.1 (mem _ mey) j hj z.symm), if_neg (fun z => n0.2.2 j (mem j (me1 j z)) j hj rfl)]
  · intro j hj
    have g0 : GA σ r_eAt j ∧ GA σ r_vAt j := by
      rcases List.mem_cons.mp hj with rfl | hj
      · obtain ⟨-, ⟨p, p1, p2, -⟩, ⟨q, q1, q2, -⟩, -⟩ := k11 y (by rw [he]; exact List.mem_append_right _ List.mem_cons_self)
        exact ⟨⟨p, p1, p2⟩, q, q1, q2⟩
      · exact a16 j hj
    obtain ⟨⟨p, p1, p2⟩, q, q1, q2⟩ := g0
    exact ⟨⟨p, p1, by rw [row r_eAt (by decide)]; exact p2⟩, q, q1, by rw [row r_vAt (by decide)]; exact q2⟩
end UNL
