/-! Value: members come and go. -/
def insL {α : Type} (q : List α) (i : Nat) (x : α) : List α := q.take i ++ x :: q.drop i
def cutL {α : Type} (q : List α) (i m : Nat) : List α := q.take i ++ q.drop (i + m)
theorem insL_len {α : Type} {q : List α} {i : Nat} {x : α} : (insL q i x).length = q.length + 1 := by
  unfold insL; rw [List.length_append, List.length_cons, List.length_take, List.length_drop]; omega
theorem cutL_len {α : Type} {q : List α} {i m : Nat} (h : i + m ≤ q.length) : (cutL q i m).length = q.length - m := by
  unfold cutL; rw [List.length_append, List.length_take, List.length_drop]; omega
theorem insL_get {α : Type} {q : List α} {i : Nat} {x : α} (hi : i ≤ q.length) (j : Nat) : (insL q i x)[j]? = if j < i then q[j]? else if j = i then some x else q[j - 1]? := by
  unfold insL
  by_cases c : j < i
  · rw [if_pos c, List.getElem?_append_left (by rw [List.length_take]; omega), List.getElem?_take, if_pos c]
  · rw [if_neg c, List.getElem?_append_right (by rw [List.length_take]; omega), List.length_take, Nat.min_eq_left hi]
    by_cases c2 : j = i
    · rw [if_pos c2, c2, Nat.sub_self]; rfl
    · rw [if_neg c2, show j - i = (j - 1 - i) + 1 by omega, List.getElem?_cons_succ, List.getElem?_drop]; congr 1; omega
theorem cutL_get {α : Type} {q : List α} {i m : Nat} (hi : i + m ≤ q.length) (j : Nat) : (cutL q i m)[j]? = if j < i then q[j]? else q[j + m]? := by
  unfold cutL
  by_cases c : j < i
  · rw [if_pos c, List.getElem?_append_left (by rw [List.length_take]; omega), List.getElem?_take, if_pos c]
  · rw [if_neg c, List.getElem?_append_right (by rw [List.length_take]; omega), List.length_take, Nat.min_eq_left (by omega), List.getElem?_drop]; congr 1; omega
theorem wl_ins {f g : Nat → Int64} {b n i : Nat} {x : Int64} {q : List Int64} (e : wl f b n = q) (hi : i ≤ n) (h1 : ∀ j, b ≤ j → j < b + i → g j = f j) (h2 : g (b + i) = x) (h3 : ∀ j, b + i < j → j ≤ b + n → g j = f (j - 1)) : wl g b (n + 1) = insL q i x := by
  have hq : q.length = n := by rw [← e, wl_len]
  refine wl_ext (by rw [insL_len, hq]) (fun j y hj => ?_)
  have hl : j < n + 1 := by have := (List.getElem?_eq_some_iff.mp hj).1; rw [insL_len, hq] at this; exact this
  rw [insL_get (by omega)] at hj
  by_cases c : j < i
  · rw [if_pos c] at hj; rw [h1 _ (by omega) (by omega)]; exact wl_at e hj
  · rw [if_neg c] at hj
    by_cases c2 : j = i
    · rw [if_pos c2] at hj; cases hj; rw [c2]; exact h2
    · rw [if_neg c2] at hj; rw [h3 _ (by omega) (by omega)]
      have := wl_at e hj
      rw [← this]; exact congrArg f (by omega)
theorem wl_cut {f g : Nat → Int64} {b n i m : Nat} {q : List Int64} (e : wl f b n = q) (hi : i + m ≤ n) (h1 : ∀ j, b ≤ j → j < b + i → g j = f j) (h3 : ∀ j, b + i ≤ j → j + m < b + n → g j = f (j + m)) : wl g b (n - m) = cutL q i m := by
  have hq : q.length = n := by rw [← e, wl_len]
  refine wl_ext (by rw [cutL_len (by omega), hq]) (fun j y hj => ?_)
  have hl : j < n - m := by have := (List.getElem?_eq_some_iff.mp hj).1; rw [cutL_len (by omega), hq] at this; exact this
  rw [cutL_get (by omega)] at hj
  by_cases c : j < i
  · rw [if_pos c] at hj; rw [h1 _ (by omega) (by omega)]; exact wl_at e hj
  · rw [if_neg c] at hj; rw [h3 _ (by omega) (by omega)]
    have := wl_at e hj
    rw [← this]; exact congrArg f (by omega)
/-- a step that changes a value and the row of cells alone -/
def Vst (v rc : Nat) (σ u : kS) : Prop := u.2.2 = σ.2.2 ∧ (∀ h x, ¬ h = v → u.1 h x = σ.1 h x) ∧ ∀ h x, ¬ h = v → ¬ h = rc → u.2.1 h x = σ.2.1 h x
theorem Vst.tr {v rc : Nat} {σ u w : kS} (a : Vst v rc σ u) (b : Vst v rc u w) : Vst v rc σ w := ⟨b.1.trans a.1, fun h x z => (b.2.1 h x z).trans (a.2.1 h x z), fun h x z1 z2 => (b.2.2 h x z1 z2).trans (a.2.2 h x z1 z2)⟩
section KVINS
variable {Y : Nat → MethodName × ByteArray} {d : Nat} {σ u : kS}
theorem k11 (ty : kTY σ) {v h : Nat} (hv : σ.2.2.2.1 v = (11, 0)) (hh : h < 76) : ¬ h = v := fun z => by
  have e := ty.2.2.1 h hh
  rw [z, hv] at e
  have q : ∀ h, h < 76 → ¬ (11, 0) = kd0 h := by decide +kernel
  exact q v (z ▸ hh) e
theorem Vst.all (ty : kTY σ) (ow : OWN σ) (po : POT σ) {v rc NC : Nat} (hv : σ.2.2.2.1 v = (11, 0)) (fc : σ.2.2.1 59 10 = some rc) (kc : σ.2.2.2.1 rc = (23, NC)) (h : Vst v rc σ u) : OWN u ∧ POT u ∧ Ch true [] [(59, 10)] σ u := by
  obtain ⟨e2, hI, hL⟩ := h
  have eF : u.2.2.1 = σ.2.2.1 := congrArg (fun t => t.1) e2
  have eD : u.2.2.2.1 = σ.2.2.2.1 := congrArg (fun t => t.2.1) e2
  have ex : kEx σ u := ⟨by rw [e2]; exact Nat.le_refl _, fun h _ => by rw [eD], by rw [e2], by rw [e2]; exact Nat.le_refl _⟩
  have hb : ∀ b ∈ OWb, b < 76 := by decide
  refine ⟨ow.same (fun p _ => by rw [eF]), po.same (fun p hp => kl_eq ty ex hp (by rw [eF])) (fun b q => hI b 2 (k11 ty hv (hb b q))) (hI 59 6 (k11 ty hv (by decide))) ⟨by rw [e2], by rw [e2]⟩, ex, fun h x h1 h2 h3 => ?_, fun g h1 h2 h3 => ?_, fun p _ _ _ => Or.inl (by rw [eF])⟩
  · have n1 : ¬ h = v := fun z => h2 rfl (by rw [z, hv])
    have n2 : ¬ h = rc := fun z => by rw [z, kc] at h1; exact absurd h1 (show ¬ (23 : Nat) < 20 by decide)
    exact ⟨hI h x n1, hL h x n1 n2, by rw [eF]⟩
  · have n1 : ¬ g = v := fun z => by rw [z, hv] at h1; exact absurd h1 (by decide)
    have n2 : ¬ g = rc := fun z => h3 (59, 10) List.mem_cons_self (by rw [z]; exact fc)
    exact ⟨funext fun x => hI g x n1, funext fun x => hL g x n1 n2, by rw [eF]⟩
/-- one value has changed, in its place -/
theorem RSG.upd (ty : kTY σ) {il sl : List Nat} {vs : List VR} {M T : Int32} {ri rs rh NK rt NT rn Nn te rc NC rm Nm ce : Nat} {ls : List (Nat × Nat)} (h : RSG σ il sl vs M T ri rs rh NK rt NT rn Nn te rc NC rm Nm ce ls) {s : Nat} {r r' : VR} {l : Nat × Nat} (hs : vs[s]? = some r) (hl : ls[s]? = some l) (hv : r'.1 = r.1) (hk : r'.2.1 = r.2.1) (hst : Vst r.1 rc σ u)
    (hC : ∀ j, ¬ ((¬ r.2.1 = 0) ∧ l.1 ≤ j ∧ j < l.1 + pts r.2.1 * l.2) → u.2.1 rc j = σ.2.1 rc j) (hnew : VOK u rt rc te ce r' l) : RST u il sl (vs.set s r') M T := by
  obtain ⟨h1, h2, h3, h4, h5, h6, h7⟩ := h
  obtain ⟨e2, hI, hL⟩ := hst
  have eF : u.2.2.1 = σ.2.2.1 := congrArg (fun t => t.1) e2
  have eD : u.2.2.2.1 = σ.2.2.2.1 := congrArg (fun t => t.2.1) e2
  have hd := (h5.2.1 s r l hs hl).1.1
  have n59 : ¬ 59 = r.1 := k11 ty hd (by decide)
  have nk : ∀ {g : Nat} {c : Nat × Nat}, σ.2.2.2.1 g = c → ¬ c = (11, 0) → ¬ g = r.1 := fun e c z => c (by rw [← e, z]; exact hd)
  have nri := nk h1.1.2 (by simp)
  have nrs := nk h1.2.1.2 (by simp)
  have nrt := nk h2.1.2 (by simp)
  obtain ⟨⟨i1, i2⟩, ⟨i3, i4⟩, ⟨i5, i6⟩, i7, i8⟩ := h1
  obtain ⟨⟨t1, t2⟩, ⟨t3, t4⟩, t5, t6, t7, t8, t9, t10⟩ := h2
  obtain ⟨⟨c1, c2⟩, ⟨c3, c4⟩, c5, c6, c7, c8, c9, c10⟩ := h3
  refine ⟨ri, rs, rh, NK, rt, NT, rn, Nn, te, rc, NC, rm, Nm, ce, ls.set s l, ⟨⟨by rw [eF]; exact i1, by rw [eD]; exact i2⟩, ⟨by rw [eF]; exact i3, by rw [eD]; exact i4⟩, ⟨by rw [eF]; exact i5, by rw [eD]; exact i6⟩, i7, i8⟩, ⟨⟨by rw [eF]; exact t1, by rw [eD]; exact t2⟩, ⟨by rw [eF]; exact t3, by rw [eD]; exact t4⟩, t5, t6, t7, t8, (hI 59 9 n59).trans t9, t10⟩, ⟨⟨by rw [eF]; exact c1, by rw [eD]; exact c2⟩, ⟨by rw [eF]; exact c3, by rw [eD]; exact c4⟩, c5, c6, c7, c8, (hI 59 12 n59).trans c9, c10⟩, h4.upd hs hv (hI 59 13 n59) (hI 59 6 n59) (funext fun x => hI ri x nri) (funext fun x => hI rs x nrs) (by rw [eF]), ?_, (hI 59 14 n59).trans h6, (hI 59 15 n59).trans h7⟩
  refine h5.upd h4.2.2.2.2.2 hs hl (Nat.le_refl _) (Nat.le_refl _) ⟨by rw [eD]; exact Nat.le_refl _, by rw [eD]; exact Nat.le_refl _⟩ (fun v hv2 => by rw [eD]; exact hv2) (fun v x hv2 z => ⟨hI v x z, hL v x z (fun y => ?_)⟩) (fun j _ _ => hI rt j nrt) (fun j _ z => hC j z) hnew (fun i q k hi hq hk2 => ?_)
  · rw [y, c2] at hv2; exact absurd hv2 (by simp)
  · intro z
    have := h5.2.2 s i r l q k (fun y => hi y.symm) hs hl hq hk2 (by rw [← hk]; exact z)
    rw [hk]; exact this
/-- what a changed value leaves -/
def vuP (σ : kS) (il sl : List Nat) (vs : List VR) (M T : Int32) : kK := fun v u => v = none ∧ RST u il sl vs M T ∧ OWN u ∧ POT u ∧ Ch true [] [(59, 10)] σ u
theorem size_st {v rc : Nat} {x : Int32} (hs : u = (mjIu σ.1 v 6 x, σ.2)) : Vst v rc σ u := ⟨by rw [hs], fun h y z => by rw [hs]; show mjIu σ.1 v 6 x h y = _; rw [mjIu_n z], fun h y _ _ => by rw [hs]⟩
theorem row_st {v rc : Nat} (e1 : u.1 = σ.1) (e2 : u.2.2 = σ.2.2) (e3 : ∀ h, ¬ h = rc → u.2.1 h = σ.2.1 h) : Vst v rc σ u := ⟨e2, fun h x _ => by rw [e1], fun h x _ z => by rw [e3 h z]⟩
/-- a member, a word of a list -/
theorem k_insert1 (ty : kTY σ) (ow : OWN σ) (po : POT σ) {il sl : List Nat} {vs : List VR} {M T : Int32} (h : RST σ il sl vs M T) {s v k n : Nat} {w c : Int32} {e : Int64} {q : List Int64} (hs : vs[s]? = some (v, k, n, w, c, e, [], [q])) (hk : k = 1 ∨ k = 3) {i ρ : Nat} (hi : i ≤ n) (hρ : σ.1 v 8 = nI ρ ∧ n < ρ ∧ ρ < 2 ^ 30) (x1 x2 x3 : Int32) (e1 : x1 = nI i) :
    kjY kPP (kQQ Y) (d + 2) 122 0 (mjL0 4 [.ref v, .int x1, .int x2, .int x3]) [] σ (vuP σ il sl (vs.set s (v, k, n + 1, w, c, e, [], [insL q i x2.toInt64])) M T) := by
  obtain ⟨ri, rs, rh, NK, rt, NT, rn, Nn, te, rc, NC, rm, Nm, ce, ls, hG⟩ := h
  obtain ⟨l, hl, hV, g1, g2, g3, g4, g5, g6, g7⟩ := hG.v hs
  have fc := hG.2.2.1.1.1
  have kc := hG.2.2.1.1.2
  obtain ⟨⟨a1, a2, a3, a4, a5, a6, a7⟩, ⟨b1, b2, b3⟩, c1, c2, c3⟩ := hV
  have a1 : σ.2.2.2.1 v = (11, 0) := a1
  have a3 : σ.1 v 1 = nI k := a3
  have b1 : σ.1 v 6 = nI n := b1
  have b2 : σ.1 v 7 = nI l.1 := b2
  have b3 : σ.1 v 8 = nI l.2 := b3
  have g3 : n ≤ 131072 := g3
  have kv : (σ.2.2.2.1 v).1 = 11 := by rw [a1]
  have hk0 : ¬ k = 0 := by omega
  have hp1 : pts k = 1 := by unfold pts; rw [if_neg hk0, if_neg (by omega), if_neg (by omega)]
  have hnl : n < l.2 := by
    have z := hρ.1.symm.trans b3
    have := (nI_eq (by omega) (by omega)).mp z; omega
  obtain ⟨d1, d2, d3, d4⟩ := c3 hk0
  have d3r : l.1 + pts k * l.2 ≤ ce ∨ (l.2 = 0 ∧ pts k * l.2 = 0 ∧ l.1 ≤ (σ.2.2.2.1 rc).2) := d3
  have d3 : l.1 + pts k * l.2 ≤ NC := by
    have d3s : l.1 + pts k * l.2 ≤ ce ∨ (l.2 = 0 ∧ pts k * l.2 = 0 ∧ l.1 ≤ NC) := by rw [kc] at d3r; exact d3r
    omega
  rw [hp1] at d3
  have hrcv : ¬ rc = v := fun z => by rw [z, a1] at kc; exact absurd kc (by simp)
  refine kjZ_y rfl rfl 2 _ _ _ _ ty ?_
  refine And.intro (fun o => ?_) (fun o => ?_)
  · exact absurd (show x1 < 0 from o) (by rw [e1]; exact nI_n0 (by omega))
  refine kjZ_y rfl rfl 4 _ _ _ _ ty ?_
  refine (And.intro (by assumption) (And.intro (fun o2 => ?_) (fun o2 => ?_)))
  · exact absurd (show σ.1 v 6 < x1 from o2) (by rw [e1, b1, nlt (by omega) (by omega)]; omega)
  refine kjZ_y rfl rfl 5 _ _ _ _ ty ?_
  refine (And.intro (by assumption) (And.intro (by assumption) (And.intro (fun o3 => ?_) (fun o3 => ?_))))
  rotate_left
  · exact absurd (show σ.1 v 6 < σ.1 v 8 from by rw [b1, b3, nlt (by omega) (by omega)]; exact hnl) o3
  refine kjZ_y rfl rfl 6 _ _ _ _ ty ?_
  refine (And.intro (Nat.le_of_ble_eq_true rfl) (And.intro (Or.inl ⟨(Nat.le_of_ble_eq_true rfl), (by assumption)⟩) (And.intro (Nat.le_of_ble_eq_true rfl) (And.intro (Nat.le_of_ble_eq_true rfl) (kjY_mono ty (fun q_ u1 ty1 xu1 h_ => ?_) (k_put (p := 0) ty kv fc kc b1 b2 b3 hi g7 (by omega) _ _ x2.toInt64 rfl e1))))))
  obtain ⟨rfl, p1, p2, p3, p4, p5, p6, p7⟩ := h_
  intro _ _
  have eD1 : u1.2.2.2.1 = σ.2.2.2.1 := congrArg (fun t => t.2.1) p2
  have kv1 : (u1.2.2.2.1 v).1 = 11 := by rw [eD1]; exact kv
  refine kjZ_y rfl rfl 4 _ _ _ _ ty1 ?_
  refine (And.intro (by assumption) (And.intro (fun o4 => ?_) (fun o4 => ?_)))
  rotate_left
  · refine absurd (show ¬ u1.1 v 1 = Int32.ofInt 2 from ?_) o4
    rw [p1, a3]
    exact fun z => by have := (nI_eq (a := k) (b := 2) (by omega) (by decide)).mp z; omega
  refine kjZ_y rfl rfl 6 _ _ _ _ ty1 ?_
  refine (And.intro (by assumption) (And.intro (by assumption) (And.intro (Or.inl rfl) (fun ty1' => ?_))))
  have go : ∀ u2, kTY u2 → u2 = (mjIu u1.1 v 6 (u1.1 v 6 + Int32.ofInt 1), u1.2) → kjY kPP (kQQ Y) (d + 2) 122 34 [some (.ref v), some (.int x1), some (.int x2), some (.int x3)] [] u2 (vuP σ il sl (vs.set s (v, k, n + 1, w, c, e, [], [insL q i x2.toInt64])) M T) := by
    intro u2 tu2 eu2
    rw [show u1.1 v 6 + Int32.ofInt 1 = nI (n + 1) by rw [p1, b1]; exact nI_1 n] at eu2
    refine kjZ_y rfl rfl 1 _ _ _ _ tu2 ?_
    refine And.intro rfl (And.intro rfl ?_)
    have st : Vst v rc σ u2 := (row_st p1 p2 p3).tr (size_st eu2)
    obtain ⟨y1, y2, y3⟩ := st.all ty ow po a1 fc kc
    have eI : ∀ x, u2.1 v x = if x = 6 then nI (n + 1) else σ.1 v x := fun x => by
      rw [eu2]; show mjIu u1.1 v 6 _ v x = _
      rw [mjIu_s, p1]
    have eL : u2.2.1 = u1.2.1 := by rw [eu2]
    have eD2 : u2.2.2.2.1 = σ.2.2.2.1 := congrArg (fun t => t.2.1) st.1
    refine ⟨rfl, ?_, y1, y2, y3⟩
    refine hG.upd ty hs hl rfl rfl st (fun j z => ?_) ?_
    · rw [eL]
      have z : ¬ (l.1 ≤ j ∧ j < l.1 + pts k * l.2) := fun y => z ⟨hk0, y⟩
      rw [hp1] at z
      by_cases z1 : j < l.1 + 0 * l.2 + i
      · exact p4 j z1
      · exact p7 j (by omega)
    · refine ⟨⟨by rw [eD2]; exact a1, a2, (eI 1).trans a3, (eI 2).trans a4, ?_, (eI 4).trans a6, (eI 5).trans a7⟩, ⟨(eI 6), (eI 7).trans b2, (eI 8).trans b3⟩, hnl, fun z => absurd z hk0, fun _ => ⟨rfl, Or.inl (by rw [hp1]; rfl), by rw [eD2]; exact d3r, fun p q' hp => ?_⟩⟩
      · rw [eL, p3 v (fun z => hrcv z.symm)]; exact a5
      · have hp0 : p = 0 := by have := (List.getElem?_eq_some_iff.mp hp).1; have : p < 1 := this; omega
        rw [hp0] at hp ⊢
        cases hp
        rw [eL]
        exact wl_ins (d4 0 q rfl) hi (fun j _ hj => p4 j hj) p5 p6
  exact go _ ty1' rfl
end KVINS
