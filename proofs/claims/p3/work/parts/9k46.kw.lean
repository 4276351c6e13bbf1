/-! The world of a command of the class. -/
def ANb : List Nat := [3, 15, 24, 33, 42, 57]
def ANn : List Nat := [3, 15, 24, 33, 42, 57, 68, 72]
def RQo : List (Nat × Nat) := [(13, 1), (22, 1), (31, 1), (40, 1), (5, 1), (7, 1), (9, 1), (17, 1), (26, 1), (35, 1), (44, 1)]
/-- the request: its row, its words -/
def RQ (σ : kS) (ws : List (List Int32)) : Prop := ∃ g M, (σ.2.2.1 53 3 = some g ∧ σ.2.2.2.1 g = (21, M) ∧ M ≤ 600000) ∧ (∃ p ∈ RQo, σ.2.2.1 p.1 p.2 = some g) ∧ (σ.1 53 4 = nI ws.length ∧ ws.length ≤ 1024) ∧ ∀ i w, ws[i]? = some w → ∃ a, σ.1 54 i = nI a ∧ σ.1 55 i = nI w.length ∧ a + w.length ≤ M ∧ wd (σ.1 g) a w.length = w
/-- the set that comes of several ones: its row -/
def POO (σ : kS) : Prop := ∃ g N k, σ.2.2.1 71 4 = some g ∧ σ.2.2.2.1 g = (20, N) ∧ 64 ≤ N ∧ N ≤ 17400 ∧ σ.1 71 5 = nI k ∧ k ≤ N
def kcF : List (Nat × Nat) := wFs ++ ([(53, 7), (53, 9), (53, 10), (53, 11), (53, 12), (53, 13), (53, 14), (53, 15), (53, 16)] ++ (stKf ++ ((59, 18) :: ([(67, 3), (67, 4), (67, 5), (67, 6), (71, 4), (71, 5), (75, 3), (75, 4), (75, 5), (75, 6), (75, 7), (75, 8), (12, 6), (21, 6), (30, 6), (39, 6)] ++ ANn.flatMap (fun b => [(b, 1), (b, 2), (b, 3)])))))
def kcO : List (Nat × Nat) := wOs ++ (stKo ++ ((71, 4) :: ANn.map (fun b => (b, 1))))
def WAT (σ : kS) : Prop := ∀ c ∈ [12, 21, 30, 39], ∃ n, n ≤ 64 ∧ σ.1 c 9 = nI n
def KWd (σ0 : kS) (B : List (List Int32)) (σ : kS) (ws nm : List (List Int32)) (ks : List KC) : Prop := (kTY σ0 ∧ Ch true kcF kcO σ0 σ) ∧ (OWN σ ∧ POT σ) ∧ (WRD σ nm ∧ ∀ w ∈ nm, w ∈ B) ∧ RQ σ ws ∧ STO σ nm ks ∧ (∀ b ∈ ANn, ∃ l, kBY σ b l) ∧ (∃ b ∈ ANb, σ.2.2.1 53 6 = some b) ∧ POO σ ∧ WAT σ
theorem kcO_in : ∀ p ∈ kcO, p ∈ OWs := by decide +kernel
section KW
variable {σ u : kS}
theorem Ch.fld {vs : Bool} {fs os : List (Nat × Nat)} (ch : Ch vs fs os σ u) (ty : kTY σ) {h x c : Nat} (hh : h < 76) (hc : (kd0 h).1 = c) (hc2 : c < 11) (hn : ¬ (h, x) ∈ fs) : u.1 h x = σ.1 h x ∧ u.2.1 h x = σ.2.1 h x ∧ u.2.2.1 h x = σ.2.2.1 h x := by
  have k := ty.k hh hc
  exact ch.2.1 h x (by omega) (fun _ => by omega) hn
theorem Ch.row {vs : Bool} {fs os : List (Nat × Nat)} (ch : Ch vs fs os σ u) (ty : kTY σ) (ow : OWN σ) (ho : ∀ p ∈ os, p ∈ OWs) {p : Nat × Nat} {g k N : Nat} (hp : p ∈ OWs) (hn : ¬ p ∈ os) (e1 : σ.2.2.1 p.1 p.2 = some g) (e2 : σ.2.2.2.1 g = (k, N)) (hk : 20 ≤ k ∧ k ≤ 25) : u.2.2.2.1 g = (k, N) ∧ u.1 g = σ.1 g ∧ u.2.1 g = σ.2.1 g ∧ u.2.2.1 g = σ.2.2.1 g := by
  have hl := ty.lr e2 (by omega)
  refine ⟨by rw [ch.1.2.1 g hl]; exact e2, ch.2.2.1 g (by rw [e2]; exact hk.1) (by rw [e2]; exact hk.2) (fun q hq z => hn ?_)⟩
  rw [ow p hp q (ho q hq) (e1.trans z.symm)]; exact hq
theorem WRD.fr (ty : kTY σ) (ow : OWN σ) {nm : List (List Int32)} (h : WRD σ nm) {vs : Bool} {fs os : List (Nat × Nat)} (ch : Ch vs fs os σ u) (hf : ∀ p ∈ fs, ¬ p.1 = 48) (ho : ∀ p ∈ os, p ∈ OWs ∧ ¬ p.1 = 48) : WRD u nm := by
  obtain ⟨rb, NB, rs, NS, rc, hw⟩ := h.g
  have f : ∀ x, u.1 48 x = σ.1 48 x ∧ u.2.1 48 x = σ.2.1 48 x ∧ u.2.2.1 48 x = σ.2.2.1 48 x := fun x => ch.fld ty (c := 2) (by decide) rfl (by decide) (fun z => hf _ z rfl)
  have ho1 : ∀ p ∈ os, p ∈ OWs := fun p hp => (ho p hp).1
  have hwo := hw
  obtain ⟨⟨b1, b2, b3, b3'⟩, ⟨s1, s2, s3, s4, s5, s5'⟩, a1, -⟩ := hw
  obtain ⟨r1, r1', -⟩ := ch.row ty ow ho1 (p := (48, 0)) (by decide) (fun z => (ho _ z).2 rfl) b1 b2 (by decide)
  obtain ⟨r2, r2', -⟩ := ch.row ty ow ho1 (p := (48, 1)) (by decide) (fun z => (ho _ z).2 rfl) s1 s2 (by decide)
  obtain ⟨r3, r3', -⟩ := ch.row ty ow ho1 (p := (48, 2)) (by decide) (fun z => (ho _ z).2 rfl) s3 s4 (by decide)
  have k48 : (σ.2.2.2.1 48).1 = 2 := ty.k (by decide) rfl
  have f52 : σ.2.2.1 48 3 = some 52 := (ty.2.2.2.2.2.2.2.1 48 3 (by rw [k48]; decide) (by rw [k48]; decide) |> fun z => by rw [k48] at z; exact z.1)
  obtain ⟨-, r4', -⟩ := ch.row ty ow ho1 (p := (48, 3)) (by decide) (fun z => (ho _ z).2 rfl) f52 (ty.kl (h := 52) (c := (20, 1024)) (by decide) rfl) (by decide)
  exact (hwo.of (u := u) (by omega) ⟨by rw [(f 0).2.2]; exact b1, r1, Nat.le_refl _, b3⟩ ⟨by rw [(f 1).2.2]; exact s1, r2, Nat.le_refl _, s5⟩ ⟨by rw [(f 2).2.2]; exact s3, r3⟩ (f 4).1 (fun j _ => by rw [r1']) (fun j _ => by rw [r2']) (fun j _ => by rw [r3']) (fun b => by rw [r4'])).d
theorem kBY.fr (ty : kTY σ) (ow : OWN σ) {b : Nat} {l : List Int32} (hb : b ∈ OWb) (h : kBY σ b l) {vs : Bool} {fs os : List (Nat × Nat)} (ch : Ch vs fs os σ u) (hf : ∀ p ∈ fs, ¬ p.1 = b) (ho : ∀ p ∈ os, p ∈ OWs ∧ ¬ p.1 = b) : kBY u b l := by
  obtain ⟨r, N, h1, h2, h3, h4, h5, h6, h7⟩ := h
  have q : ∀ b ∈ OWb, b < 76 ∧ (kd0 b).1 = 0 := by decide
  have f : ∀ x, u.1 b x = σ.1 b x ∧ u.2.1 b x = σ.2.1 b x ∧ u.2.2.1 b x = σ.2.2.1 b x := fun x => ch.fld ty (c := 0) (q b hb).1 (q b hb).2 (by decide) (fun z => hf _ z rfl)
  obtain ⟨r1, r1', -⟩ := ch.row ty ow (fun p hp => (ho p hp).1) (p := (b, 1)) (ow_b hb) (fun z => (ho _ z).2 rfl) h1 h2 (by decide)
  exact ⟨r, N, by rw [(f 1).2.2]; exact h1, r1, h3, (f 0).1.trans h4, (f 2).1.trans h5, h6, by rw [r1']; exact h7⟩
theorem RQ.fr (ty : kTY σ) (ow : OWN σ) {ws : List (List Int32)} (h : RQ σ ws) {vs : Bool} {fs os : List (Nat × Nat)} (ch : Ch vs fs os σ u) (hf : ∀ p ∈ fs, p ∈ kcF) (ho : ∀ p ∈ os, p ∈ kcO) : RQ u ws := by
  obtain ⟨g, M, ⟨h1, h2, h3⟩, ⟨p, hp, h4⟩, ⟨h5, h6⟩, h7⟩ := h
  have f : ∀ x, ¬ (53, x) ∈ kcF → u.1 53 x = σ.1 53 x ∧ u.2.1 53 x = σ.2.1 53 x ∧ u.2.2.1 53 x = σ.2.2.1 53 x := fun x z => ch.fld ty (c := 3) (by decide) rfl (by decide) (fun y => z (hf _ y))
  have ho1 : ∀ p ∈ os, p ∈ OWs := fun p hp => kcO_in p (ho p hp)
  have q1 : ∀ p ∈ RQo, p ∈ OWs ∧ ¬ p ∈ kcO ∧ ¬ p ∈ kcF ∧ p.1 < 76 ∧ (kd0 p.1).1 = 0 := by decide +kernel
  obtain ⟨r1, r1', -⟩ := ch.row ty ow ho1 (q1 p hp).1 (fun z => (q1 p hp).2.1 (ho _ z)) h4 h2 (by decide)
  have k53 : (σ.2.2.2.1 53).1 = 3 := ty.k (by decide) rfl
  have f54 : σ.2.2.1 53 1 = some 54 := (ty.2.2.2.2.2.2.2.1 53 1 (by rw [k53]; decide) (by rw [k53]; decide) |> fun z => by rw [k53] at z; exact z.1)
  have f55 : σ.2.2.1 53 2 = some 55 := (ty.2.2.2.2.2.2.2.1 53 2 (by rw [k53]; decide) (by rw [k53]; decide) |> fun z => by rw [k53] at z; exact z.1)
  obtain ⟨-, r2', -⟩ := ch.row ty ow ho1 (p := (53, 1)) (by decide) (fun z => absurd (ho _ z) (by decide +kernel)) f54 (ty.kl (h := 54) (c := (20, 1024)) (by decide) rfl) (by decide)
  obtain ⟨-, r3', -⟩ := ch.row ty ow ho1 (p := (53, 2)) (by decide) (fun z => absurd (ho _ z) (by decide +kernel)) f55 (ty.kl (h := 55) (c := (20, 1024)) (by decide) rfl) (by decide)
  refine ⟨g, M, ⟨by rw [(f 3 (by decide +kernel)).2.2]; exact h1, r1, h3⟩, ⟨p, hp, ?_⟩, ⟨(f 4 (by decide +kernel)).1.trans h5, h6⟩, fun i w hi => ?_⟩
  · rw [(ch.fld ty (q1 p hp).2.2.2.1 (q1 p hp).2.2.2.2 (by decide) (fun z => (q1 p hp).2.2.1 (hf _ z))).2.2]; exact h4
  · rw [r1', r2', r3']; exact h7 i w hi
theorem POO.fr (ty : kTY σ) (ow : OWN σ) (h : POO σ) {vs : Bool} {fs os : List (Nat × Nat)} (ch : Ch vs fs os σ u) (hf : ∀ p ∈ fs, ¬ p.1 = 71) (ho : ∀ p ∈ os, p ∈ OWs ∧ ¬ p.1 = 71) : POO u := by
  obtain ⟨g, N, k, h1, h2, h3, h4, h5, h6⟩ := h
  have f : ∀ x, u.1 71 x = σ.1 71 x ∧ u.2.1 71 x = σ.2.1 71 x ∧ u.2.2.1 71 x = σ.2.2.1 71 x := fun x => ch.fld ty (c := 7) (by decide) rfl (by decide) (fun z => hf _ z rfl)
  obtain ⟨r1, -⟩ := ch.row ty ow (fun p hp => (ho p hp).1) (p := (71, 4)) (by decide) (fun z => (ho _ z).2 rfl) h1 h2 (by decide)
  exact ⟨g, N, k, by rw [(f 4).2.2]; exact h1, r1, h3, h4, (f 5).1.trans h5, h6⟩
theorem KWd.gen {σ0 : kS} {B ws nm nm' : List (List Int32)} {ks ks' : List KC} (ty : kTY σ) (w : KWd σ0 B σ ws nm ks) {vs : Bool} {fs os : List (Nat × Nat)} (ch : Ch vs fs os σ u) (hf : ∀ p ∈ fs, p ∈ kcF) (ho : ∀ p ∈ os, p ∈ kcO) (h2 : OWN u ∧ POT u) (h3 : WRD u nm' ∧ ∀ w ∈ nm', w ∈ B) (h5 : STO u nm' ks') (h6 : ∀ b ∈ ANn, ∃ l, kBY u b l) (h8 : POO u) : KWd σ0 B u ws nm' ks' := by
  obtain ⟨w1, w2, w3, w4, w5, w6, ⟨b, hb, w7⟩, w8, w9⟩ := w
  refine ⟨⟨w1.1, Ch.tr w1.1 kcO_in w1.2 (ch.up (fun _ => rfl) hf ho)⟩, h2, h3, w4.fr ty w2.1 ch hf ho, h5, h6, ⟨b, hb, ?_⟩, h8, fun c hc => ?_⟩
  · rw [(ch.fld ty (h := 53) (x := 6) (c := 3) (by decide) rfl (by decide) (fun z => absurd (hf _ z) (by decide +kernel))).2.2]; exact w7
  · obtain ⟨n, hn, e⟩ := w9 c hc
    have q : ∀ c ∈ [12, 21, 30, 39], c < 76 ∧ (kd0 c).1 = 1 ∧ ¬ (c, 9) ∈ kcF := by decide +kernel
    exact ⟨n, hn, by rw [(ch.fld ty (q c hc).1 (q c hc).2.1 (by decide) (fun z => (q c hc).2.2 (hf _ z))).1]; exact e⟩
theorem ANn_b : ∀ b ∈ ANn, b ∈ OWb ∧ ¬ b = 48 ∧ ¬ b = 59 ∧ ¬ b = 71 ∧ b < 76 ∧ ((b, 1) ∈ kcF ∧ (b, 2) ∈ kcF ∧ (b, 3) ∈ kcF) ∧ (b, 1) ∈ kcO := by decide +kernel
/-- something is answered, or spelt -/
theorem KWd.ans {σ0 : kS} {B ws nm : List (List Int32)} {ks : List KC} (ty : kTY σ) (w : KWd σ0 B σ ws nm ks) {b : Nat} (hb : b ∈ ANn) {l : List Int32} (ch : Ch false [(b, 1), (b, 2), (b, 3)] [(b, 1)] σ u) (ow : OWN u) (po : POT u) (h : kBY u b l) : KWd σ0 B u ws nm ks := by
  obtain ⟨q1, q2, q3, q4, q5, q6, q7⟩ := ANn_b b hb
  have f1 : ∀ p ∈ [(b, 1), (b, 2), (b, 3)], p.1 = b := by simp
  have f2 : ∀ p ∈ [(b, 1)], p.1 = b ∧ p ∈ OWs := fun p hp => by rw [List.mem_singleton.mp hp]; exact ⟨rfl, ow_b q1⟩
  have hw := w
  obtain ⟨w1, w2, w3, w4, ⟨fr, vs, w5, w5'⟩, w6, w7, w8, w9⟩ := w
  have n59 : ∀ p ∈ stKf, p.1 = 59 := by decide
  have n59' : ∀ p ∈ stKo, p.1 = 59 := by decide
  refine hw.gen ty ch (fun p hp => ?_) (fun p hp => by rw [List.mem_singleton.mp hp]; exact q7) ⟨ow, po⟩ ⟨w3.1.fr ty w2.1 ch (fun p hp => by rw [f1 p hp]; exact q2) (fun p hp => ⟨(f2 p hp).2, by rw [(f2 p hp).1]; exact q2⟩), w3.2⟩ ⟨fr, vs, w5.fr ty w2.1 ch (fun p hp => ⟨by rw [f1 p hp]; exact q5, fun z => q3 (by rw [← f1 p hp]; exact n59 p z)⟩) (fun p hp => ⟨(f2 p hp).2, fun z => q3 (by rw [← (f2 p hp).1]; exact n59' p z)⟩), w5'⟩ (fun c hc => ?_) (w8.fr ty w2.1 ch (fun p hp => by rw [f1 p hp]; exact q4) (fun p hp => ⟨(f2 p hp).2, by rw [(f2 p hp).1]; exact q4⟩))
  · rcases List.mem_cons.mp hp with z | hp
    · rw [z]; exact q6.1
    · rcases List.mem_cons.mp hp with z | hp
      · rw [z]; exact q6.2.1
      · rw [List.mem_singleton.mp hp]; exact q6.2.2
  · by_cases z : c = b
    · rw [z]; exact ⟨l, h⟩
    · obtain ⟨l', hl'⟩ := w6 c hc
      exact ⟨l', hl'.fr ty w2.1 (ANn_b c hc).1 ch (fun p hp => by rw [f1 p hp]; exact fun y => z y.symm) (fun p hp => ⟨(f2 p hp).2, by rw [(f2 p hp).1]; exact fun y => z y.symm⟩)⟩
/-- a word has come -/
theorem KWd.wrd {σ0 : kS} {B ws nm nm' : List (List Int32)} {ks : List KC} (ty : kTY σ) (w : KWd σ0 B σ ws nm ks) (ch : Ch false wFs wOs σ u) (ow : OWN u) (po : POT u) (h : WRD u nm') (hp : PRE nm nm') (hB : ∀ w ∈ nm', w ∈ B) : KWd σ0 B u ws nm' ks := by
  have hw := w
  obtain ⟨w1, w2, w3, w4, ⟨fr, vs, w5, w5'⟩, w6, w7, w8, w9⟩ := w
  exact hw.gen ty ch (by decide +kernel) (by decide +kernel) ⟨ow, po⟩ ⟨h, hB⟩ ⟨fr, vs, w5.fr ty w2.1 ch (by decide) (by decide), w5'.mono hp⟩ (fun c hc => by
    obtain ⟨l', hl'⟩ := w6 c hc
    have q : ∀ c ∈ ANn, (∀ p ∈ wFs, ¬ p.1 = c) ∧ ∀ p ∈ wOs, p ∈ OWs ∧ ¬ p.1 = c := by decide +kernel
    exact ⟨l', hl'.fr ty w2.1 (ANn_b c hc).1 ch (q c hc).1 (q c hc).2⟩) (w8.fr ty w2.1 ch (by decide) (by decide))
/-- the store has changed -/
theorem KWd.sto {σ0 : kS} {B ws nm : List (List Int32)} {ks ks' : List KC} (ty : kTY σ) (w : KWd σ0 B σ ws nm ks) {vs : Bool} {fs os : List (Nat × Nat)} (ch : Ch vs fs os σ u) (hf : ∀ p ∈ fs, p ∈ stKf) (ho : ∀ p ∈ os, p ∈ stKo) (ow : OWN u) (po : POT u) (h : STO u nm ks') : KWd σ0 B u ws nm ks' := by
  have hw := w
  obtain ⟨w1, w2, w3, w4, -, w6, w7, w8, w9⟩ := w
  have a1 : ∀ p ∈ stKf, p ∈ kcF ∧ ¬ p.1 = 48 ∧ ¬ p.1 = 71 ∧ p.1 = 59 := by decide +kernel
  have a2 : ∀ p ∈ stKo, p ∈ kcO ∧ p ∈ OWs ∧ ¬ p.1 = 48 ∧ ¬ p.1 = 71 ∧ p.1 = 59 := by decide +kernel
  exact hw.gen ty ch (fun p hp => (a1 p (hf p hp)).1) (fun p hp => (a2 p (ho p hp)).1) ⟨ow, po⟩ ⟨w3.1.fr ty w2.1 ch (fun p hp => (a1 p (hf p hp)).2.1) (fun p hp => ⟨(a2 p (ho p hp)).2.1, (a2 p (ho p hp)).2.2.1⟩), w3.2⟩ h (fun c hc => by
    obtain ⟨l', hl'⟩ := w6 c hc
    have n59 := (ANn_b c hc).2.2.1
    exact ⟨l', hl'.fr ty w2.1 (ANn_b c hc).1 ch (fun p hp => by rw [(a1 p (hf p hp)).2.2.2]; exact fun z => n59 z.symm) (fun p hp => ⟨(a2 p (ho p hp)).2.1, by rw [(a2 p (ho p hp)).2.2.2.2]; exact fun z => n59 z.symm⟩)⟩) (w8.fr ty w2.1 ch (fun p hp => (a1 p (hf p hp)).2.2.1) (fun p hp => ⟨(a2 p (ho p hp)).2.1, (a2 p (ho p hp)).2.2.2.1⟩))
/-- a field of the request's or of a command's own -/
def scF : List (Nat × Nat) := [(53, 7), (53, 9), (53, 10), (53, 11), (53, 12), (53, 13), (53, 14), (53, 15), (53, 16), (59, 18), (67, 3), (67, 4), (67, 5), (67, 6), (75, 3), (75, 4), (75, 5), (75, 6), (75, 7), (75, 8), (12, 6), (21, 6), (30, 6), (39, 6)]
theorem KWd.scr {σ0 : kS} {B ws nm : List (List Int32)} {ks : List KC} (ty : kTY σ) (w : KWd σ0 B σ ws nm ks) {fs : List (Nat × Nat)} (ch : Ch false fs [] σ u) (hf : ∀ p ∈ fs, p ∈ scF) (ow : OWN u) (po : POT u) : KWd σ0 B u ws nm ks := by
  have hw := w
  obtain ⟨w1, w2, w3, w4, ⟨fr, vs, w5, w5'⟩, w6, w7, w8, w9⟩ := w
  have a1 : ∀ p ∈ scF, p ∈ kcF ∧ ¬ p.1 = 48 ∧ ¬ p.1 = 71 ∧ p.1 < 76 ∧ ¬ p ∈ stKf ∧ ∀ c ∈ ANn, ¬ p.1 = c := by decide +kernel
  exact hw.gen ty ch (fun p hp => (a1 p (hf p hp)).1) (fun p hp => by cases hp) ⟨ow, po⟩ ⟨w3.1.fr ty w2.1 ch (fun p hp => (a1 p (hf p hp)).2.1) (fun p hp => by cases hp), w3.2⟩ ⟨fr, vs, w5.fr ty w2.1 ch (fun p hp => ⟨(a1 p (hf p hp)).2.2.2.1, (a1 p (hf p hp)).2.2.2.2.1⟩) (fun p hp => by cases hp), w5'⟩ (fun c hc => by
    obtain ⟨l', hl'⟩ := w6 c hc
    exact ⟨l', hl'.fr ty w2.1 (ANn_b c hc).1 ch (fun p hp => (a1 p (hf p hp)).2.2.2.2.2 c hc) (fun p hp => by cases hp)⟩) (w8.fr ty w2.1 ch (fun p hp => (a1 p (hf p hp)).2.2.1) (fun p hp => by cases hp))
end KW
