/-! insert: an element comes to a key. -/
section INS
variable {σ u : mjS}
theorem EOK.fr2 {hs : Nat} {x : ER} (h : EOK σ hs x) (h1 : ∀ g ∈ [r_eAt, r_eLen, r_vAt, r_vLen], u.2.2.1 g x.1 = σ.2.2.1 g x.1) (h2 : u.2.2.2 r_eScore x.1 = σ.2.2.2 r_eScore x.1) (h3 : AgH σ u hs) : EOK u hs x := ⟨h.1, h.2.1.fr (h1 _ (by decide)) (h1 _ (by decide)) h3 (Nat.le_refl _), h.2.2.1.fr (h1 _ (by decide)) (h1 _ (by decide)) h3 (Nat.le_refl _), by rw [h2]; exact h.2.2.2⟩
abbrev inH : List Nat := [r_kHead, r_kTail, r_kMany, r_eNext, r_ePrev, r_eLen, r_vLen, r_eScore]
/-- a key's record with other elements -/
def withE (x : KR) (es : List ER) : KR := (x.1, x.2.1, x.2.2.1, x.2.2.2.1, x.2.2.2.2.1, x.2.2.2.2.2.1, es)
theorem ids_app (a b : List ER) : ids (a ++ b) = ids a ++ ids b := by unfold ids; rw [List.map_append]
theorem ids_cons (a : ER) (b : List ER) : ids (a :: b) = a.1 :: ids b := by unfold ids; rw [List.map_cons]
theorem ks_insert {hs : Nat} {A B : List KR} {x : KR} {fk fe : List Nat} {e : Nat} {E1 E2 : List ER} (h : KS σ hs (A ++ x :: B) fk (e :: fe)) (he : x.2.2.2.2.2.2 = E1 ++ E2) (f : Fr [f_eFree] inH σ u) (q1 : u.1 f_eFree = σ.2.2.1 r_eNext e)
    (hN : ∀ j, u.2.2.1 r_eNext j = if j = e then hdq (ids E2) (-1) else if (ids E1).getLast? = some j then nI e else σ.2.2.1 r_eNext j)
    (hP : ∀ j, u.2.2.1 r_ePrev j = if j = e then lst (-1) (ids E1) else if (ids E2).head? = some j then nI e else σ.2.2.1 r_ePrev j)
    (hH : ∀ j, u.2.2.1 r_kHead j = if ids E1 = [] ∧ j = x.1 then nI e else σ.2.2.1 r_kHead j) (hT : ∀ j, u.2.2.1 r_kTail j = if ids E2 = [] ∧ j = x.1 then nI e else σ.2.2.1 r_kTail j) (hM : ∀ j, u.2.2.1 r_kMany j = if j = x.1 then σ.2.2.1 r_kMany x.1 + 1 else σ.2.2.1 r_kMany j)
    (hL : ∀ j, u.2.2.1 r_eLen j = if j = e then 0 else σ.2.2.1 r_eLen j) (hV : ∀ j, u.2.2.1 r_vLen j = if j = e then 0 else σ.2.2.1 r_vLen j) (hS : ∀ j, u.2.2.2 r_eScore j = if j = e then 0 else σ.2.2.2 r_eScore j) : KS u hs (A ++ withE x (E1 ++ (e, [], [], 0) :: E2) :: B) fk fe := by
  have h0 := h
  obtain ⟨a1, a2, a3, a4, a5, a6, a7, a8, a9, a10, a11, a12, a13, a14, a15, a16, a17⟩ := h
  have hx : x ∈ A ++ x :: B := List.mem_append_right _ List.mem_cons_self
  have hk := a5 x hx
  have ei : ids x.2.2.2.2.2.2 = ids E1 ++ ids E2 := by rw [he, ids_app]
  have n0 := List.nodup_append.mp a11
  have nfe := List.nodup_cons.mp n0.2.1
  have mem : ∀ j, j ∈ ids E1 ++ ids E2 → j ∈ eIds (A ++ x :: B) := fun j hj => mem_eIds hx (by rw [ei]; exact hj)
  have en : e ∉ ids E1 ++ ids E2 := fun z => n0.2.2 e (mem e z) e List.mem_cons_self rfl
  have nds : (ids E1 ++ ids E2).Nodup := by
    have z := n0.1
    rw [eIds_app, eIds_cons, ei] at z
    exact (List.nodup_append.mp (List.nodup_append.mp z).2.1).1
  have row : ∀ g, g ∉ inH → u.2.2.1 g = σ.2.2.1 g := fun g hg => (f.2.2 g hg).1
  have e10 : e < 10000 := a12 e (List.mem_append_right _ List.mem_cons_self)
  obtain ⟨k1, k2, k3, k4, k5, k6, k7, k8, k9, k10, k11⟩ := hk
  have aH : AgH σ u hs := fun j _ => by rw [row r_heap (by decide)]
  refine KS.one h0 (x' := withE x (E1 ++ (e, [], [], 0) :: E2)) rfl ((f.1 _ (by decide)).trans a1) (Nat.le_refl _) a2 (f.1 _ (by decide)) (f.1 _ (by decide)) (q1.trans a15.1) (row _ (by decide)) (row _ (by decide)) ?_ ?_ aH ?_ ?_ ?_ ?_
  · intro j hj
    refine ⟨fun g hg => ?_, by rw [(f.2.2 r_kTime (by decide)).2]⟩
    by_cases c : g ∈ inH
    · have c3 : g = r_kHead ∨ g = r_kTail ∨ g = r_kMany := (by decide : ∀ g ∈ kRows, g ∈ inH → g = r_kHead ∨ g = r_kTail ∨ g = r_kMany) g hg c
      rcases c3 with rfl | rfl | rfl
      · rw [hH, if_neg (fun z => hj z.2)]
      · rw [hT, if_neg (fun z => hj z.2)]
      · rw [hM, if_neg hj]
    · rw [row g c]
  · intro j hj hf
    rw [ei] at hj
    have je : j ≠ e := fun z => hf (by rw [z]; exact List.mem_cons_self)
    refine ⟨fun g hg => ?_, by rw [hS, if_neg je]⟩
    by_cases c : g ∈ inH
    · have c3 : g = r_eNext ∨ g = r_ePrev ∨ g = r_eLen ∨ g = r_vLen := (by decide : ∀ g ∈ eRows, g ∈ inH → g = r_eNext ∨ g = r_ePrev ∨ g = r_eLen ∨ g = r_vLen) g hg c
      rcases c3 with rfl | rfl | rfl | rfl
      · rw [hN, if_neg je, if_neg (fun z => hj (List.mem_append_left _ (List.mem_of_getLast? z)))]
      · rw [hP, if_neg je, if_neg (fun z => hj (List.mem_append_right _ (List.mem_of_head? z)))]
      · rw [hL, if_neg je]
      · rw [hV, if_neg je]
    · rw [row g c]
  · have eid : ids (E1 ++ (e, [], [], 0) :: E2) = ids E1 ++ e :: ids E2 := by rw [ids_app, ids_cons]
    refine ⟨k1, k2.fr (by rw [row r_kAt (by decide)]) (by rw [row r_kLen (by decide)]) aH (Nat.le_refl _), by rw [row r_kSort (by decide)]; exact k3, by rw [row r_kTimed (by decide)]; exact k4, by rw [(f.2.2 r_kTime (by decide)).2]; exact k5, k6.fr (by rw [row r_tAt (by decide)]) (by rw [row r_tLen (by decide)]) aH (Nat.le_refl _), ?_, ?_, ?_, ?_, ?_⟩
    · show u.2.2.1 r_kHead x.1 = nx (ids (E1 ++ (e, [], [], 0) :: E2))
      rw [eid, hH]
      rw [ei] at k7
      cases hc : ids E1 with
      | nil => rw [if_pos ⟨rfl, rfl⟩]; rfl
      | cons b r => rw [if_neg (fun z => by cases z.1), k7, hc]; rfl
    · show u.2.2.1 r_kTail x.1 = lst (-1) (ids (E1 ++ (e, [], [], 0) :: E2))
      rw [eid, hT, lst_app]
      rw [ei, lst_app] at k8
      cases hc : ids E2 with
      | nil => rw [if_pos ⟨rfl, rfl⟩]; rfl
      | cons b r => rw [if_neg (fun z => by cases z.1), k8, hc]; rfl
    · show u.2.2.1 r_kMany x.1 = nI (E1 ++ (e, [], [], 0) :: E2).length
      rw [hM, if_pos rfl, k9, he, nI_1]
      exact congrArg nI (by simp only [List.length_append, List.length_cons]; omega)
    · show SEG u (-1) (ids (E1 ++ (e, [], [], 0) :: E2)) (-1)
      rw [eid]
      exact seg_ins (by rw [← ei]; exact k10) nds en hN hP
    · have old : ∀ y ∈ E1 ++ E2, EOK u hs y := by
        intro y hy
        have ye : y.1 ≠ e := fun z => en (by rw [← ids_app, ← z]; exact List.mem_map.mpr ⟨y, hy, rfl⟩)
        refine (k11 y (by rw [he]; exact hy)).fr2 (fun g hg => ?_) (by rw [hS, if_neg ye]) aH
        rcases (by decide : ∀ g ∈ [r_eAt, r_eLen, r_vAt, r_vLen], g = r_eLen ∨ g = r_vLen ∨ g ∉ inH) g hg with rfl | rfl | c
        · rw [hL, if_neg ye]
        · rw [hV, if_neg ye]
        · rw [row g c]
      intro y hy
      rcases List.mem_append.mp hy with hy | hy
      · exact old y (List.mem_append_left _ hy)
      · rcases List.mem_cons.mp hy with rfl | hy
        · obtain ⟨⟨p, p1, p2⟩, q, q1, q2⟩ := a16 e List.mem_cons_self
          exact ⟨e10, ⟨p, p1, by rw [row r_eAt (by decide)]; exact p2, by rw [hL, if_pos rfl]; rfl, Or.inl rfl⟩, ⟨q, q1, by rw [row r_vAt (by decide)]; exact q2, by rw [hV, if_pos rfl]; rfl, Or.inl rfl⟩, by rw [hS, if_pos rfl]⟩
        · exact old y (List.mem_append_right _ hy)
  · show (ids (E1 ++ (e, [], [], 0) :: E2) ++ fe).Perm (ids x.2.2.2.2.2.2 ++ e :: fe)
    rw [ei, ids_app, ids_cons, List.append_assoc, List.append_assoc]
    refine List.Perm.append_left _ ?_
    rw [List.cons_append]
    exact List.perm_middle.symm
  · refine FSEG.fr a15.2 (fun j hj => ?_)
    rw [hN, if_neg (fun z : j = e => nfe.1 (z ▸ hj)), if_neg (fun z => n0.2.2 j (mem j (List.mem_append_left _ (List.mem_of_getLast? z))) j (List.mem_cons_of_mem _ hj) rfl)]
  · intro j hj
    obtain ⟨⟨p, p1, p2⟩, q, q1, q2⟩ := a16 j (List.mem_cons_of_mem _ hj)
    exact ⟨⟨p, p1, by rw [row r_eAt (by decide)]; exact p2⟩, q, q1, by rw [row r_vAt (by decide)]; exact q2⟩
end INS
