/-! A request is read in the world between commands; the next one of a block. -/
def rdF : List (Nat × Nat) := [(53, 3), (53, 4), (53, 5), (53, 9)]
def rdO : List (Nat × Nat) := [(53, 1), (53, 2)]
theorem rdO_in : ∀ p ∈ rdO, p ∈ OWs ∧ p.1 = 53 ∧ ¬ p ∈ stKo := by decide +kernel
theorem rdF_ok : ∀ p ∈ rdF, p ∈ ouF ∧ p.1 = 53 := by decide +kernel
section KREAD3
variable {Y : Nat → MethodName × ByteArray} {d : Nat} {σ u : kS} {B ws nmm nmm' : List (List Int32)} {ks ks' : List KC}
/-- what reading a request leaves -/
theorem KG.rd (ty : kTY σ) (g : KG B σ nmm ks) {h p : Nat} {z : kS} (ez : z = ((mjIu (mjIu σ.1 53 4 0) 53 5 (nI p)), σ.2.1, kFu σ.2.2.1 53 3 (some h), σ.2.2.2)) (rx : RWx z u) : KG B u nmm ks ∧ (∀ b ∈ OWb, ∀ l, kBY σ b l → kBY u b l ∧ u.1 b 3 = σ.1 b 3) ∧ Ch false rdF rdO σ u ∧ u.2.2.1 53 3 = some h ∧ u.2.2.2.1 = σ.2.2.2.1 ∧ (u.2.2.2.2.2.1 = σ.2.2.2.2.2.1 ∧ u.2.2.2.2.2.2 = σ.2.2.2.2.2.2) ∧ (∀ h x, ¬ h = 53 → u.2.2.1 h x = σ.2.2.1 h x) ∧ ∀ h x, ¬ h = 53 → ¬ h = 54 → ¬ h = 55 → u.1 h x = σ.1 h x := by
  obtain ⟨r1, r2, r3⟩ := rx
  have eF : u.2.2.1 = kFu σ.2.2.1 53 3 (some h) := by rw [show u.2.2.1 = z.2.2.1 from congrArg (fun t => t.1) r1, ez]
  have eD : u.2.2.2.1 = σ.2.2.2.1 := by rw [show u.2.2.2.1 = z.2.2.2.1 from congrArg (fun t => t.2.1) r1, ez]
  have e4 : u.2.2.2 = σ.2.2.2 := by rw [show u.2.2.2 = z.2.2.2 from congrArg (fun t => t.2) r1, ez]
  have eI : ∀ a x, ¬ (a = 53 ∧ (x = 4 ∨ x = 5)) → ¬ a = 54 → ¬ a = 55 → u.1 a x = σ.1 a x := fun a x n1 n2 n3 => by
    rw [r2 a x n1 n2 n3, ez]; show mjIu (mjIu σ.1 53 4 0) 53 5 _ a x = _
    rw [mjIu_at, mjIu_at, if_neg (fun q => n1 ⟨q.1, Or.inr q.2⟩), if_neg (fun q => n1 ⟨q.1, Or.inl q.2⟩)]
  have eL : ∀ a x, ¬ (a = 53 ∧ x = 9) → u.2.1 a x = σ.2.1 a x := fun a x n => by rw [r3 a x n, ez]
  have eFn : ∀ a x, ¬ (a = 53 ∧ x = 3) → u.2.2.1 a x = σ.2.2.1 a x := fun a x n => by rw [eF, kFu_at, if_neg n]
  have k53 : (σ.2.2.2.1 53).1 = 3 := ty.k (by decide) rfl
  have k54 : σ.2.2.2.1 54 = (20, 1024) := ty.kl (h := 54) (c := (20, 1024)) (by decide) rfl
  have k55 : σ.2.2.2.1 55 = (20, 1024) := ty.kl (h := 55) (c := (20, 1024)) (by decide) rfl
  have f54 : σ.2.2.1 53 1 = some 54 := (ty.2.2.2.2.2.2.2.1 53 1 (by rw [k53]; decide) (by rw [k53]; decide) |> fun z => by rw [k53] at z; exact z.1)
  have f55 : σ.2.2.1 53 2 = some 55 := (ty.2.2.2.2.2.2.2.1 53 2 (by rw [k53]; decide) (by rw [k53]; decide) |> fun z => by rw [k53] at z; exact z.1)
  have n3 : ¬ (53, 3) ∈ OWs := by decide +kernel
  have eO : ∀ q ∈ OWs, u.2.2.1 q.1 q.2 = σ.2.2.1 q.1 q.2 := fun q hq => eFn _ _ (fun w => n3 (by rw [← w.1, ← w.2]; exact hq))
  have ex : kEx σ u := by
    refine ⟨?_, fun a _ => by rw [eD], ?_, ?_⟩
    · show σ.2.2.2.2.1 ≤ u.2.2.2.2.1; rw [e4]; exact Nat.le_refl _
    · show u.2.2.2.2.1 + u.2.2.2.2.2.1 = _; rw [e4]
    · show u.2.2.2.2.2.2 ≤ _; rw [e4]; exact Nat.le_refl _
  have ch : Ch false rdF rdO σ u := by
    refine ⟨ex, fun a x h1 h2 h3 => ⟨eI a x (fun w => h3 ?_) (fun w => ?_) (fun w => ?_), eL a x (fun w => h3 (by rw [w.1, w.2]; decide)), eFn a x (fun w => h3 (by rw [w.1, w.2]; decide))⟩, fun a h1 h2 h3 => ⟨funext fun x => eI a x (fun w => ?_) (fun w => h3 (53, 1) (by decide) (by rw [w]; exact f54)) (fun w => h3 (53, 2) (by decide) (by rw [w]; exact f55)), funext fun x => eL a x (fun w => ?_), funext fun x => eFn a x (fun w => ?_)⟩, fun q hq _ _ => Or.inl (eO q hq)⟩
    · rcases w.2 with y | y
      · rw [w.1, y]; decide
      · rw [w.1, y]; decide
    · rw [w, k54] at h1; exact absurd h1 (show ¬ (20 : Nat) < 20 by decide)
    · rw [w, k55] at h1; exact absurd h1 (show ¬ (20 : Nat) < 20 by decide)
    · rw [w.1, k53] at h1; exact absurd h1 (by decide)
    · rw [w.1, k53] at h1; exact absurd h1 (by decide)
    · rw [w.1, k53] at h1; exact absurd h1 (by decide)
  have hb : ∀ b ∈ OWb, ¬ b = 53 ∧ ¬ b = 54 ∧ ¬ b = 55 := by decide
  have ow : OWN u := g.1.1.same eO
  have po : POT u := g.1.2.same (fun q hq => kl_eq ty ex hq (eO q hq)) (fun b q => eI b 2 (fun w => (hb b q).1 w.1) (hb b q).2.1 (hb b q).2.2) (eI 59 6 (by decide) (by decide) (by decide)) ⟨by show u.2.2.2.2.2.1 = _; rw [e4], by show u.2.2.2.2.2.2 = _; rw [e4]⟩
  have by_ : ∀ b ∈ OWb, ∀ l, kBY σ b l → kBY u b l ∧ u.1 b 3 = σ.1 b 3 := fun b hb' l hl => ⟨hl.fr ty g.1.1 hb' ch (fun q hq => by rw [(rdF_ok q hq).2]; exact fun w => (hb b hb').1 w.symm) (fun q hq => ⟨(rdO_in q hq).1, by rw [(rdO_in q hq).2.1]; exact fun w => (hb b hb').1 w.symm⟩), eI b 3 (fun w => (hb b hb').1 w.1) (hb b hb').2.1 (hb b hb').2.2⟩
  obtain ⟨w2, w3, ⟨fr, vs, w5, w5'⟩, w6, w8, w9, w10⟩ := g
  have qc : ∀ c ∈ CNs, c < 76 ∧ (kd0 c).1 = 1 ∧ ¬ c = 53 ∧ ¬ c = 54 ∧ ¬ c = 55 := by decide +kernel
  refine ⟨⟨⟨ow, po⟩, ⟨w3.1.fr ty w2.1 ch (fun q hq => by rw [(rdF_ok q hq).2]; decide) (fun q hq => ⟨(rdO_in q hq).1, by rw [(rdO_in q hq).2.1]; decide⟩), w3.2⟩, ⟨fr, vs, w5.fr ty w2.1 ch (fun q hq => ⟨by rw [(rdF_ok q hq).2]; decide, (ouF_ok q (rdF_ok q hq).1).2.2.2.1⟩) (fun q hq => ⟨(rdO_in q hq).1, (rdO_in q hq).2.2⟩), w5'⟩, fun b hb' => ?_, w8.fr ty w2.1 ch (fun q hq => by rw [(rdF_ok q hq).2]; decide) (fun q hq => ⟨(rdO_in q hq).1, by rw [(rdO_in q hq).2.1]; decide⟩), fun c hc => ?_, fun c hc => ?_⟩, by_, ch, by rw [eF, kFu_at, if_pos ⟨rfl, rfl⟩], eD, ⟨by show u.2.2.2.2.2.1 = _; rw [e4], by show u.2.2.2.2.2.2 = _; rw [e4]⟩, fun a x n => eFn a x (fun w => n w.1), fun a x n1 n2 n3 => eI a x (fun w => n1 w.1) n2 n3⟩
  · obtain ⟨l, hl⟩ := w6 b hb'
    exact ⟨l, (by_ b hb' l hl).1⟩
  · obtain ⟨n, hn, e⟩ := w9 c hc
    exact ⟨n, hn, by rw [eI c 9 (fun w => (qc c hc).2.2.1 w.1) (qc c hc).2.2.2.1 (qc c hc).2.2.2.2]; exact e⟩
  · obtain ⟨n, hn, e⟩ := w10 c hc
    exact ⟨n, hn, by rw [eI c 11 (fun w => (qc c hc).2.2.1 w.1) (qc c hc).2.2.2.1 (qc c hc).2.2.2.2]; exact e⟩
/-- the words that were read -/
theorem RQ_of (ty : kTY σ) (ow : OWN σ) {h M e : Nat} {pr : Nat × Nat} (hpr : pr ∈ RQo) (eo : σ.2.2.1 pr.1 pr.2 = some h) (kh : σ.2.2.2.1 h = (21, M)) (hM : M ≤ 600000) (he : e ≤ M) {q : Req} (h3 : u.2.2.1 53 3 = some h) (eD : u.2.2.2.1 = σ.2.2.2.1) (eF : ∀ h x, ¬ h = 53 → u.2.2.1 h x = σ.2.2.1 h x) (eI : ∀ h x, ¬ h = 53 → ¬ h = 54 → ¬ h = 55 → u.1 h x = σ.1 h x) (h4 : u.1 53 4 = nI q.length) (h1024 : q.length ≤ 1024) (hw : WP (σ.1 h) e u q) : RQ u q := by
  have k53 : (σ.2.2.2.1 53).1 = 3 := ty.k (by decide) rfl
  have k54 : σ.2.2.2.1 54 = (20, 1024) := ty.kl (h := 54) (c := (20, 1024)) (by decide) rfl
  have k55 : σ.2.2.2.1 55 = (20, 1024) := ty.kl (h := 55) (c := (20, 1024)) (by decide) rfl
  have n1 : ¬ h = 53 := fun z => by rw [z] at kh; rw [kh] at k53; exact absurd (show (21 : Nat) = 3 from k53) (by decide)
  have n2 : ¬ h = 54 := fun z => by rw [z] at kh; rw [kh] at k54; exact absurd k54 (by simp)
  have n3 : ¬ h = 55 := fun z => by rw [z] at kh; rw [kh] at k55; exact absurd k55 (by simp)
  have q53 : ∀ p ∈ RQo, ¬ p.1 = 53 := by decide
  refine ⟨h, M, ⟨h3, by rw [eD]; exact kh, hM⟩, ⟨pr, hpr, by rw [eF _ _ (q53 pr hpr)]; exact eo⟩, ⟨h4, h1024⟩, fun i w hi => ?_⟩
  obtain ⟨a, a1, a2, a3, a4, -⟩ := hw i w hi
  refine ⟨a, a1, a2, by omega, ?_⟩
  rw [show u.1 h = σ.1 h from funext fun x => eI h x n1 n2 n3]; exact a4
/-- what stands there is read again -/
theorem rdQ_E {h p e : Nat} {q : Req} {r : Option Value} (hq : q.length ≤ 1024) (hw : ∀ w ∈ q, w.length ≤ 16384) (hA : AT (σ.1 h) p e (encR q)) (he : p + (encR q).length ≤ e) (hr : rdQ σ h (σ.1 h) p e r u) : (∃ z, z = ((mjIu (mjIu σ.1 53 4 0) 53 5 (nI p)), σ.2.1, kFu σ.2.2.1 53 3 (some h), σ.2.2.2) ∧ RWx z u) ∧ r = some (.int 0) ∧ u.1 53 4 = nI q.length ∧ u.1 53 5 = nI (p + (encR q).length) ∧ WP (σ.1 h) e u q := by
  have hs := star_ok hq hw hA he
  have h42 : σ.1 h p = 42 := hA 0 42 (by rw [encR_hd]; rfl) (by rw [encR_hd] at he; have : (hdN q.length ++ wordsL q).length = (dec (lN q.length) ++ [13, 10] ++ wordsL q).length + 1 := rfl; omega)
  have hlt : p < e := by rw [encR_hd] at he; have : (hdN q.length ++ wordsL q).length = (dec (lN q.length) ++ [13, 10] ++ wordsL q).length + 1 := rfl; omega
  obtain ⟨h1, h2⟩ := hr
  refine ⟨h1, ?_⟩
  rcases h2 with ⟨q', nx, a1, a2, a3, a4, a5, a6, a7, a8, a9⟩ | ⟨-, -, b3, -⟩
  · have := a9 h42
    rw [hs] at this
    obtain ⟨e1, e2⟩ := Prod.mk.inj (Option.some.inj (Option.some.inj this))
    subst e1; subst e2
    exact ⟨a1, a2, a4, a8⟩
  · exact absurd hs (b3 hlt h42 _)
theorem AT_mid {b : Nat → Int32} {D L E : List Int32} (h : wd b 0 (D ++ L ++ E).length = D ++ L ++ E) {e : Nat} (he : e = (D ++ L ++ E).length) : AT b D.length e L := by
  intro i x hx hi
  have hl := (List.getElem?_eq_some_iff.mp hx).1
  have h1 : (D ++ L ++ E)[D.length + i]? = some x := by
    rw [List.append_assoc, List.getElem?_append_right (by omega), show D.length + i - D.length = i by omega, List.getElem?_append_left hl]; exact hx
  have h2 : (wd b 0 (D ++ L ++ E).length)[D.length + i]? = some x := by rw [h]; exact h1
  unfold wd at h2
  rw [List.getElem?_map, List.getElem?_range (by rw [List.length_append, List.length_append]; omega)] at h2
  have h2 : b (0 + (D.length + i)) = x := Option.some.inj h2
  rw [Nat.zero_add] at h2; exact h2
end KREAD3
