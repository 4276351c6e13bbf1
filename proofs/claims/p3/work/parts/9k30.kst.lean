/-! The keys of the class: what the store holds, value by value. -/
def wl (f : Nat → Int64) (a n : Nat) : List Int64 := (List.range n).map (fun k => f (a + k))
theorem wl_len (f : Nat → Int64) (a n : Nat) : (wl f a n).length = n := by unfold wl; rw [List.length_map, List.length_range]
theorem wl_congr {f g : Nat → Int64} {a b n : Nat} (h : ∀ k, k < n → f (a + k) = g (b + k)) : wl f a n = wl g b n := by
  unfold wl; exact List.map_congr_left fun k hk => h k (List.mem_range.mp hk)
theorem wl_get {f : Nat → Int64} {a n k : Nat} (h : k < n) : (wl f a n)[k]? = some (f (a + k)) := by
  unfold wl; rw [List.getElem?_map, List.getElem?_range h]; rfl
theorem wl_at {f : Nat → Int64} {a n k : Nat} {q : List Int64} (e : wl f a n = q) {x : Int64} (h : q[k]? = some x) : f (a + k) = x := by
  have hk : k < n := by have := (List.getElem?_eq_some_iff.mp h).1; rw [← e, wl_len] at this; exact this
  rw [← e, wl_get hk] at h; exact Option.some.inj h
theorem wl_ext {f : Nat → Int64} {a n : Nat} {q : List Int64} (hl : q.length = n) (h : ∀ i x, q[i]? = some x → f (a + i) = x) : wl f a n = q := by
  refine List.ext_getElem? fun i => ?_
  by_cases c : i < n
  · rw [wl_get c, List.getElem?_eq_getElem (by omega)]
    exact congrArg some (h i _ (List.getElem?_eq_getElem (by omega)))
  · rw [List.getElem?_eq_none (by rw [wl_len]; omega), List.getElem?_eq_none (by omega)]
/-- how many parts a sort has -/
def pts (k : Nat) : Nat := if k = 0 then 0 else if k = 4 then 4 else if k = 2 then 2 else 1
theorem pts_le (k : Nat) : pts k ≤ 4 := by unfold pts; split <;> first | omega | (split <;> first | omega | (split <;> omega))
def P2 (N : Nat) : Prop := ∃ j, N = 64 * 2 ^ j
/-- a value: its thing, sort, size, weight, what is counted of it, its end, its text, its parts -/
abbrev VR : Type := Nat × Nat × Nat × Int32 × Int32 × Int64 × List Int32 × List (List Int64)
def spc (k r : Nat) : Nat := if k = 0 then r else pts k * r
def VOK (σ : kS) (rt rc te ce : Nat) (r : VR) (l : Nat × Nat) : Prop :=
  (σ.2.2.2.1 r.1 = (11, 0) ∧ r.2.1 ≤ 4 ∧ σ.1 r.1 1 = nI r.2.1 ∧ σ.1 r.1 2 = nI (pts r.2.1) ∧ σ.2.1 r.1 3 = r.2.2.2.2.2.1 ∧ σ.1 r.1 4 = r.2.2.2.1 ∧ σ.1 r.1 5 = r.2.2.2.2.1) ∧
  (σ.1 r.1 6 = nI r.2.2.1 ∧ σ.1 r.1 7 = nI l.1 ∧ σ.1 r.1 8 = nI l.2) ∧ r.2.2.1 ≤ l.2 ∧
  (r.2.1 = 0 → r.2.2.2.2.2.2.1.length = r.2.2.1 ∧ (r.2.2.2.2.2.2.2 = [] ∨ (r.2.2.2.2.2.2.2 = [[]] ∧ l.2 = 0)) ∧ l.2 ≤ 16384 ∧ (l.1 + l.2 ≤ te ∨ (l.2 = 0 ∧ l.1 ≤ (σ.2.2.2.1 rt).2)) ∧ wd (σ.1 rt) l.1 r.2.2.1 = r.2.2.2.2.2.2.1) ∧
  (¬ r.2.1 = 0 → r.2.2.2.2.2.2.1 = [] ∧ (r.2.2.2.2.2.2.2.length = pts r.2.1 ∨ (r.2.2.2.2.2.2.2 = [] ∧ l.2 = 0)) ∧ (l.1 + pts r.2.1 * l.2 ≤ ce ∨ (l.2 = 0 ∧ pts r.2.1 * l.2 = 0 ∧ l.1 ≤ (σ.2.2.2.1 rc).2)) ∧ ∀ p q, r.2.2.2.2.2.2.2[p]? = some q → wl (σ.2.1 rc) (l.1 + p * l.2) r.2.2.1 = q)
/-- the mark of a value that no key has: its parts are none -/
def flC (k : Nat) : List (List Int64) := if k = 0 then [[]] else []
theorem cs_lt {cs : List (List Int64)} {k m p : Nat} {q : List Int64} (h : cs.length = pts k ∨ (cs = [] ∧ m = 0)) (hp : cs[p]? = some q) : p < pts k := by
  rcases h with z | z
  · rw [← z]; exact (List.getElem?_eq_some_iff.mp hp).1
  · rw [z.1] at hp; cases hp
/-- two values stand apart -/
def LD (r : VR) (l : Nat × Nat) (r' : VR) (l' : Nat × Nat) : Prop := (r.2.1 = 0 ↔ r'.2.1 = 0) → l.1 + spc r.2.1 l.2 ≤ l'.1 ∨ l'.1 + spc r'.2.1 l'.2 ≤ l.1 ∨ spc r.2.1 l.2 = 0 ∨ spc r'.2.1 l'.2 = 0
theorem LD.sy {r r' : VR} {l l' : Nat × Nat} (h : LD r l r' l') : LD r' l' r l := fun c => by
  rcases h c.symm with z | z | z | z
  · exact Or.inr (Or.inl z)
  · exact Or.inl z
  · exact Or.inr (Or.inr (Or.inr z))
  · exact Or.inr (Or.inr (Or.inl z))
def IXR (σ : kS) (ri rs rh NK : Nat) : Prop := (σ.2.2.1 59 3 = some ri ∧ σ.2.2.2.1 ri = (20, NK)) ∧ (σ.2.2.1 59 4 = some rs ∧ σ.2.2.2.1 rs = (20, NK)) ∧ (σ.2.2.1 59 5 = some rh ∧ σ.2.2.2.1 rh = (25, NK)) ∧ 64 ≤ NK ∧ NK ≤ 5200
def TXR (σ : kS) (rt NT rn Nn te : Nat) : Prop := (σ.2.2.1 59 7 = some rt ∧ σ.2.2.2.1 rt = (21, NT)) ∧ (σ.2.2.1 59 8 = some rn ∧ σ.2.2.2.1 rn = (21, Nn)) ∧ P2 NT ∧ (Nn = 0 ∨ P2 Nn) ∧ NT ≤ 131072 ∧ Nn ≤ 131072 ∧ σ.1 59 9 = nI te ∧ te ≤ NT
def CLR (σ : kS) (rc NC rm Nm ce : Nat) : Prop := (σ.2.2.1 59 10 = some rc ∧ σ.2.2.2.1 rc = (23, NC)) ∧ (σ.2.2.1 59 11 = some rm ∧ σ.2.2.2.1 rm = (23, Nm)) ∧ P2 NC ∧ (Nm = 0 ∨ P2 Nm) ∧ NC ≤ 65536 ∧ Nm ≤ 65536 ∧ σ.1 59 12 = nI ce ∧ ce ≤ NC
def IXL (σ : kS) (ri rs rh NK : Nat) (il sl : List Nat) (vs : List VR) : Prop := (σ.1 59 13 = nI il.length ∧ σ.1 59 6 = nI vs.length ∧ il.length ≤ vs.length ∧ vs.length ≤ NK ∧ vs.length ≤ 2600) ∧ (sl.length = vs.length ∧ sl.Nodup ∧ ∀ s ∈ sl, s < vs.length) ∧
  (∀ i k, il[i]? = some k → σ.1 ri i = nI k) ∧ (∀ i s, sl[i]? = some s → σ.1 rs i = nI s) ∧ (∀ i r, vs[i]? = some r → σ.2.2.1 rh i = some r.1) ∧ (vs.map Prod.fst).Nodup
def VLS (σ : kS) (rt rc te ce : Nat) (vs : List VR) (ls : List (Nat × Nat)) : Prop := ls.length = vs.length ∧ (∀ (i : Nat) r l, vs[i]? = some r → ls[i]? = some l → VOK σ rt rc te ce r l) ∧ ∀ (i j : Nat) r l r' l', ¬ i = j → vs[i]? = some r → ls[i]? = some l → vs[j]? = some r' → ls[j]? = some l' → LD r l r' l'
def RSG (σ : kS) (il sl : List Nat) (vs : List VR) (M T : Int32) (ri rs rh NK rt NT rn Nn te rc NC rm Nm ce : Nat) (ls : List (Nat × Nat)) : Prop := IXR σ ri rs rh NK ∧ TXR σ rt NT rn Nn te ∧ CLR σ rc NC rm Nm ce ∧ IXL σ ri rs rh NK il sl vs ∧ VLS σ rt rc te ce vs ls ∧ σ.1 59 14 = M ∧ σ.1 59 15 = T
def RST (σ : kS) (il sl : List Nat) (vs : List VR) (M T : Int32) : Prop := ∃ ri rs rh NK rt NT rn Nn te rc NC rm Nm ce ls, RSG σ il sl vs M T ri rs rh NK rt NT rn Nn te rc NC rm Nm ce ls
section KST
variable {σ u : kS}
theorem set_get {α : Type} {l : List α} {s i : Nat} {a b : α} (h : (l.set s a)[i]? = some b) : (i = s ∧ b = a ∧ s < l.length) ∨ (¬ i = s ∧ l[i]? = some b) := by
  rw [List.getElem?_set] at h
  by_cases c : s = i
  · rw [if_pos c] at h
    by_cases q : s < l.length
    · rw [if_pos q] at h; exact Or.inl ⟨c.symm, (Option.some.inj h).symm, q⟩
    · rw [if_neg q] at h; cases h
  · rw [if_neg c] at h; exact Or.inr ⟨fun z => c z.symm, h⟩
/-- values are other things -/
theorem nd_ne {vs : List VR} (hn : (vs.map Prod.fst).Nodup) {i j : Nat} {r r' : VR} (hi : vs[i]? = some r) (hj : vs[j]? = some r') (h : ¬ i = j) : ¬ r.1 = r'.1 := by
  intro e
  have hi' := (List.getElem?_eq_some_iff.mp hi)
  have hj' := (List.getElem?_eq_some_iff.mp hj)
  obtain ⟨a1, a2⟩ := hi'
  obtain ⟨b1, b2⟩ := hj'
  have hp := List.pairwise_iff_getElem.mp hn
  have l1 : i < (vs.map Prod.fst).length := by rw [List.length_map]; exact a1
  have l2 : j < (vs.map Prod.fst).length := by rw [List.length_map]; exact b1
  have e1 : (vs.map Prod.fst)[i] = r.1 := by rw [List.getElem_map, a2]
  have e2 : (vs.map Prod.fst)[j] = r'.1 := by rw [List.getElem_map, b2]
  rcases Nat.lt_or_gt_of_ne h with c | c
  · exact hp i j l1 l2 c (by rw [e1, e2]; exact e)
  · exact hp j i l2 l1 c (by rw [e1, e2]; exact e.symm)
theorem VOK.fr {rt rc te ce rt' rc' te' ce' : Nat} {r : VR} {l : Nat × Nat} (h : VOK σ rt rc te ce r l) (hte : te ≤ te') (hce : ce ≤ ce') (hN : (σ.2.2.2.1 rt).2 ≤ (u.2.2.2.1 rt').2 ∧ (σ.2.2.2.1 rc).2 ≤ (u.2.2.2.1 rc').2) (hD : u.2.2.2.1 r.1 = (11, 0)) (hI : ∀ x, u.1 r.1 x = σ.1 r.1 x) (hL : ∀ x, u.2.1 r.1 x = σ.2.1 r.1 x) (hT : r.2.1 = 0 → ∀ j, l.1 ≤ j → j < l.1 + l.2 → u.1 rt' j = σ.1 rt j) (hC : ¬ r.2.1 = 0 → ∀ j, l.1 ≤ j → j < l.1 + pts r.2.1 * l.2 → u.2.1 rc' j = σ.2.1 rc j) : VOK u rt' rc' te' ce' r l := by
  obtain ⟨⟨a1, a2, a3, a4, a5, a6, a7⟩, ⟨b1, b2, b3⟩, c1, c2, c3⟩ := h
  refine ⟨⟨hD, a2, (hI 1).trans a3, (hI 2).trans a4, (hL 3).trans a5, (hI 4).trans a6, (hI 5).trans a7⟩, ⟨(hI 6).trans b1, (hI 7).trans b2, (hI 8).trans b3⟩, c1, fun z => ?_, fun z => ?_⟩
  · obtain ⟨d1, d2, d3, d4, d5⟩ := c2 z
    refine ⟨d1, d2, d3, by omega, Eq.trans (wd_congr fun k hk => hT z _ (by omega) (by omega)) d5⟩
  · obtain ⟨d1, d2, d3, d4⟩ := c3 z
    refine ⟨d1, d2, by omega, fun p q hp => Eq.trans (wl_congr fun k hk => ?_) (d4 p q hp)⟩
    have hpl : p < pts r.2.1 := cs_lt d2 hp
    have hm : p * l.2 + l.2 ≤ pts r.2.1 * l.2 := by
      have := Nat.mul_le_mul_right l.2 (show p + 1 ≤ pts r.2.1 from hpl)
      rw [Nat.succ_mul] at this; exact this
    exact hC z _ (by omega) (by omega)
theorem VOK.end_ {rt rc te ce : Nat} {r : VR} {l : Nat × Nat} (h : VOK σ rt rc te ce r l) : (r.2.1 = 0 → l.1 + spc r.2.1 l.2 ≤ te ∨ spc r.2.1 l.2 = 0) ∧ (¬ r.2.1 = 0 → l.1 + spc r.2.1 l.2 ≤ ce ∨ spc r.2.1 l.2 = 0) := by
  refine ⟨fun z => ?_, fun z => ?_⟩
  · unfold spc; rw [if_pos z]; exact (h.2.2.2.1 z).2.2.2.1.imp id (fun q => q.1)
  · unfold spc; rw [if_neg z]; exact (h.2.2.2.2 z).2.2.1.imp id (fun q => q.2.1)
/-- one value changes -/
theorem VLS.upd {rt rc te ce te' ce' : Nat} {vs : List VR} {ls : List (Nat × Nat)} (h : VLS σ rt rc te ce vs ls) (hn : (vs.map Prod.fst).Nodup) {s : Nat} {r r' : VR} {l l' : Nat × Nat} (hs : vs[s]? = some r) (hl : ls[s]? = some l) (hte : te ≤ te') (hce : ce ≤ ce')
    (hN : (σ.2.2.2.1 rt).2 ≤ (u.2.2.2.1 rt).2 ∧ (σ.2.2.2.1 rc).2 ≤ (u.2.2.2.1 rc).2) (hD : ∀ v, σ.2.2.2.1 v = (11, 0) → u.2.2.2.1 v = (11, 0)) (hI : ∀ v x, σ.2.2.2.1 v = (11, 0) → ¬ v = r.1 → u.1 v x = σ.1 v x ∧ u.2.1 v x = σ.2.1 v x)
    (hT : ∀ j, j < te → ¬ (r.2.1 = 0 ∧ l.1 ≤ j ∧ j < l.1 + l.2) → u.1 rt j = σ.1 rt j) (hC : ∀ j, j < ce → ¬ ((¬ r.2.1 = 0) ∧ l.1 ≤ j ∧ j < l.1 + pts r.2.1 * l.2) → u.2.1 rc j = σ.2.1 rc j)
    (hnew : VOK u rt rc te' ce' r' l') (hout : ∀ i q k, ¬ i = s → vs[i]? = some q → ls[i]? = some k → LD r' l' q k) : VLS u rt rc te' ce' (vs.set s r') (ls.set s l') := by
  obtain ⟨h1, h2, h3⟩ := h
  refine ⟨by rw [List.length_set, List.length_set]; exact h1, fun i q k hq hk => ?_, fun i j q k q' k' hij e1 e2 e3 e4 => ?_⟩
  · rcases set_get hq with ⟨z1, z2, z3⟩ | ⟨z1, z2⟩
    · rcases set_get hk with ⟨y1, y2, y3⟩ | ⟨y1, y2⟩
      · rw [z2, y2]; exact hnew
      · exact absurd z1 y1
    · rcases set_get hk with ⟨y1, y2, y3⟩ | ⟨y1, y2⟩
      · exact absurd y1 z1
      · have hv := h2 i q k z2 y2
        have hd := h3 i s q k r l z1 z2 y2 hs hl
        have he := hv.end_
        have hne := nd_ne hn z2 hs z1
        refine hv.fr hte hce hN (hD _ hv.1.1) (fun x => (hI _ x hv.1.1 hne).1) (fun x => (hI _ x hv.1.1 hne).2) (fun c j j1 j2 => ?_) (fun c j j1 j2 => ?_)
        · refine hT j (by have := (hv.2.2.2.1 c).2.2.2.1; omega) (fun z => ?_)
          have := hd ⟨fun _ => z.1, fun _ => c⟩
          unfold spc at this; rw [if_pos c, if_pos z.1] at this; omega
        · refine hC j (by have := (hv.2.2.2.2 c).2.2.1; omega) (fun z => ?_)
          have := hd ⟨fun y => absurd y c, fun y => absurd y z.1⟩
          unfold spc at this; rw [if_neg c, if_neg z.1] at this; omega
  · rcases set_get e1 with ⟨z1, z2, z3⟩ | ⟨z1, z2⟩
    · rcases set_get e2 with ⟨y1, y2, y3⟩ | ⟨y1, y2⟩
      · rcases set_get e3 with ⟨x1, x2, x3⟩ | ⟨x1, x2⟩
        · exact absurd (z1.trans x1.symm) hij
        · rcases set_get e4 with ⟨w1, w2, w3⟩ | ⟨w1, w2⟩
          · exact absurd w1 x1
          · rw [z2, y2]; exact hout j q' k' x1 x2 w2
      · exact absurd z1 y1
    · rcases set_get e2 with ⟨y1, y2, y3⟩ | ⟨y1, y2⟩
      · exact absurd y1 z1
      · rcases set_get e3 with ⟨x1, x2, x3⟩ | ⟨x1, x2⟩
        · rcases set_get e4 with ⟨w1, w2, w3⟩ | ⟨w1, w2⟩
          · rw [x2, w2]; exact (hout i q k z1 z2 y2).sy
          · exact absurd x1 w1
        · rcases set_get e4 with ⟨w1, w2, w3⟩ | ⟨w1, w2⟩
          · exact absurd w1 x1
          · exact h3 i j q k q' k' hij z2 y2 x2 w2
theorem map_set_fst {vs : List VR} {s : Nat} {r r' : VR} (hs : vs[s]? = some r) (hv : r'.1 = r.1) : (vs.set s r').map Prod.fst = vs.map Prod.fst := by
  rw [List.map_set]
  refine List.ext_getElem? fun i => ?_
  rw [List.getElem?_set]
  by_cases c : s = i
  · rw [if_pos c]
    have hl := (List.getElem?_eq_some_iff.mp hs).1
    rw [if_pos (by rw [List.length_map]; exact hl), ← c, List.getElem?_map, hs]; exact congrArg some hv
  · rw [if_neg c]
theorem IXL.upd {ri rs rh NK : Nat} {il sl : List Nat} {vs : List VR} (h : IXL σ ri rs rh NK il sl vs) {s : Nat} {r r' : VR} (hs : vs[s]? = some r) (hv : r'.1 = r.1) (e1 : u.1 59 13 = σ.1 59 13) (e2 : u.1 59 6 = σ.1 59 6) (e3 : u.1 ri = σ.1 ri) (e4 : u.1 rs = σ.1 rs) (e5 : u.2.2.1 rh = σ.2.2.1 rh) : IXL u ri rs rh NK il sl (vs.set s r') := by
  obtain ⟨⟨a1, a2, a3, a4, a5⟩, ⟨b1, b2, b3⟩, c1, c2, c3, c4⟩ := h
  refine ⟨⟨e1.trans a1, by rw [List.length_set]; exact e2.trans a2, by rw [List.length_set]; exact a3, by rw [List.length_set]; exact a4, by rw [List.length_set]; exact a5⟩, ⟨by rw [List.length_set]; exact b1, b2, by rw [List.length_set]; exact b3⟩, fun i k hk => by rw [e3]; exact c1 i k hk, fun i k hk => by rw [e4]; exact c2 i k hk, fun i q hq => ?_, by rw [map_set_fst hs hv]; exact c4⟩
  rw [e5]
  rcases set_get hq with ⟨z1, z2, z3⟩ | ⟨z1, z2⟩
  · rw [z2, z1, c3 s r hs, hv]
  · exact c3 i q z2
end KST
