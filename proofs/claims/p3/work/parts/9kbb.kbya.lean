/-! Texts and words of the class's store are bytes. -/
section KBYA
variable {σ : kS} {B nm : List (List Int32)} {ks : List KC}
theorem wd_BY (ty : kTY σ) {g M : Nat} (h : σ.2.2.2.1 g = (21, M)) (a n : Nat) : BY (wd (σ.1 g) a n) := by
  intro x hx
  unfold wd at hx
  obtain ⟨k, -, rfl⟩ := List.mem_map.mp hx
  exact ty.2.1 g _ (by rw [h])
theorem WRD.by_ (ty : kTY σ) (h : WRD σ nm) : ∀ w ∈ nm, BY w := by
  intro w hw
  obtain ⟨rb, NB, rs, NS, rc, ⟨-, h2, -⟩, -, -, -, -, -, h8, -⟩ := h
  obtain ⟨i, hi⟩ := List.mem_iff_getElem?.mp hw
  rw [← h8 i w hi]
  exact wd_BY ty h2 _ _
theorem KG.bya (ty : kTY σ) (g : KG B σ nm ks) (hA : IA (skA ks)) : ∀ a ∈ skA ks, BYA a := by
  intro a ha
  have hw := g.2.1.1.by_ ty
  obtain ⟨x, hx, rfl⟩ := List.mem_map.mp ha
  obtain ⟨a1, a2, a3, a4, a5, a6⟩ := hA.2 _ ha
  obtain ⟨fr, vs, hR, hS⟩ := g.2.2.1
  obtain ⟨r, r1, r2, r3, r4, ⟨v1, v2, v3, v4, v5, v6⟩, r6⟩ := hS.1 x hx
  obtain ⟨ri, rs, rh, NK, rt, NT, rn, Nn, te, rc, NC, rm, Nm, ce, ls, hG⟩ := hR
  obtain ⟨-, ⟨⟨-, t2⟩, -⟩, -, -, ⟨l1, l2, -⟩, -⟩ := hG
  have key : ∀ w ∈ nm, BY w := hw
  refine ⟨?_, fun z hz => ?_⟩
  · by_cases c : x.2.2.2.2.2.2.1 = 0
    · have hk0 : r.2.1 = 0 := by
        rw [v1] at c
        exact (nI_eq (by omega) (by decide)).mp (c.trans (show (0 : Int32) = nI 0 from rfl))
      have hlt := (List.getElem?_eq_some_iff.mp r1).1
      obtain ⟨l, hl⟩ : ∃ l, ls[x.2.2.1]? = some l := ⟨_, List.getElem?_eq_getElem (by rw [l1]; exact hlt)⟩
      have hV := l2 _ r l r1 hl
      have := (hV.2.2.2.1 hk0).2.2.2.2
      rw [← v4, ← this]
      exact wd_BY ty t2 _ _
    · rw [(a4 c).2]; intro y hy; cases hy
  · rcases a6 with c | c | c | c | c
    · rw [a3.2.1 c] at hz; cases hz
    · rw [a3.2.2.1 c z hz]; intro y hy; cases hy
    · have hk2 : r.2.1 = 2 := by
        rw [v1] at c
        exact (nI_eq (by omega) (by decide)).mp (c.trans (show (2 : Int32) = nI 2 from rfl))
      obtain ⟨q0, q1, -, -, i1⟩ := v6.2.2.1 hk2
      have hm : z.2.1 ∈ x.2.2.2.2.2.2.2.2.2.2.map (fun z => z.2.1) := List.mem_map.mpr ⟨z, hz, rfl⟩
      obtain ⟨i, hi⟩ := List.mem_iff_getElem?.mp hm
      obtain ⟨k, -, hk⟩ := i1.2 i _ hi
      exact key _ (List.mem_of_getElem? hk)
    · rw [(a3.2.2.2.2.1 c).2 z hz]; intro y hy; cases hy
    · rw [(a3.2.2.2.2.2 c).2 z hz]; intro y hy; cases hy
end KBYA
