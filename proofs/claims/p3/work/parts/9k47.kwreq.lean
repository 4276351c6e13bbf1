/-! Answers, and the request's own small methods, over the world of a command. -/
section KWREQ
variable {Y : Nat → MethodName × ByteArray} {d : Nat} {σ0 σ u : kS} {B ws nm : List (List Int32)} {ks : List KC}
theorem sl_eq (l : List (List Int32)) : sl l = (l.map (fun w => w.length)).sum := by
  induction l with
  | nil => rfl
  | cons w r ih => rw [List.map_cons, List.sum_cons, ← ih]; rfl
theorem sl_sub : ∀ {nm B : List (List Int32)}, nm.Nodup → (∀ w ∈ nm, w ∈ B) → sl nm ≤ sl B := by
  intro nm
  induction nm with
  | nil => intro B _ _; exact Nat.zero_le _
  | cons w r ih =>
    intro B hn hB
    obtain ⟨h1, h2⟩ := List.nodup_cons.mp hn
    have hp := List.perm_cons_erase (hB w List.mem_cons_self)
    have e : sl B = w.length + sl (B.erase w) := by
      rw [sl_eq, sum_perm hp, List.map_cons, List.sum_cons, ← sl_eq]
    have := ih (B := B.erase w) h2 (fun x hx => by
      have : x ≠ w := fun z => h1 (z ▸ hx)
      exact (List.mem_erase_of_ne this).mpr (hB x (List.mem_cons_of_mem _ hx)))
    show w.length + sl r ≤ _
    omega
theorem PO_of {b c : Nat} (hb : ¬ b ∈ payB) (po : POT σ) : PO σ b c := by
  refine ⟨?_, po.2⟩
  have e : potB σ (csU σ b c) = potB σ (ksz σ) := sum_eq fun x hx => by
    unfold csU phiB
    by_cases z : x = b
    · rw [z, if_neg hb, if_neg hb]
    · rw [if_neg z]
  rw [e]; exact po.1
theorem opQ_an {b k : Nat} (hb : b ∈ ANn) (po : POT σ) (l : List Int32) : opQ σ b l k := by
  have q : ∀ b ∈ ANn, ¬ b ∈ payB ∧ (kMo b ≤ kNd b ∨ kMo b ≤ 64) := by decide +kernel
  obtain ⟨q1, q2⟩ := q b hb
  exact ⟨PO_of q1 po, fun _ h1 h2 => by omega⟩
/-- fields that are as they were -/
def SCl (l : List (Nat × Nat)) (σ u : kS) : Prop := ∀ p ∈ l, u.1 p.1 p.2 = σ.1 p.1 p.2 ∧ u.2.1 p.1 p.2 = σ.2.1 p.1 p.2 ∧ u.2.2.1 p.1 p.2 = σ.2.2.1 p.1 p.2
theorem SCl.rf {l : List (Nat × Nat)} {σ : kS} : SCl l σ σ := fun _ _ => ⟨rfl, rfl, rfl⟩
theorem SCl.tr {l : List (Nat × Nat)} {σ u v : kS} (a : SCl l σ u) (b : SCl l u v) : SCl l σ v := fun p hp => ⟨(b p hp).1.trans (a p hp).1, (b p hp).2.1.trans (a p hp).2.1, (b p hp).2.2.trans (a p hp).2.2⟩
theorem SCl.sub {l m : List (Nat × Nat)} {σ u : kS} (a : SCl l σ u) (h : ∀ p ∈ m, p ∈ l) : SCl m σ u := fun p hp => a p (h p hp)
theorem Ch.sc {vs : Bool} {fs os : List (Nat × Nat)} {σ u : kS} (ch : Ch vs fs os σ u) (ty : kTY σ) {l : List (Nat × Nat)} (h : ∀ p ∈ l, p.1 < 76 ∧ (kd0 p.1).1 < 11 ∧ ¬ p ∈ fs) : SCl l σ u := fun p hp => ch.fld ty (h p hp).1 rfl (h p hp).2.1 (h p hp).2.2
/-- what a command notes for itself -/
def scA : List (Nat × Nat) := [(53, 8), (53, 9), (53, 10), (53, 11), (53, 12), (53, 13), (53, 14), (53, 15), (53, 16), (59, 16), (59, 17), (59, 18), (67, 3), (67, 4), (67, 5), (67, 6), (75, 3), (75, 4), (75, 5), (75, 6), (75, 7), (75, 8)]
theorem scA_ok : ∀ p ∈ scA, p.1 < 76 ∧ (kd0 p.1).1 < 11 ∧ ¬ p ∈ wFs ∧ (∀ b ∈ ANn, ¬ p.1 = b) ∧ ¬ p = (53, 7) ∧ ¬ p ∈ stKf := by decide +kernel
/-- nothing but an answer has changed -/
def wP (σ0 : kS) (B : List (List Int32)) (σ : kS) (ws nm : List (List Int32)) (ks : List KC) : kK := fun r u => r = none ∧ KWd σ0 B u ws nm ks ∧ SCl scA σ u
theorem KWd.op (ty : kTY σ) (w : KWd σ0 B σ ws nm ks) {b : Nat} (hb : b ∈ ANn) {l m : List Int32} {r : Option Value} (h : opP σ b l m r u) : wP σ0 B σ ws nm ks r u := by
  obtain ⟨h1, h2, h3, h4, l', h5, -⟩ := h
  refine ⟨h1, w.ans ty hb h2 h3 h4 h5, h2.sc ty (fun p hp => ⟨(scA_ok p hp).1, (scA_ok p hp).2.1, fun z => (scA_ok p hp).2.2.2.1 b hb ?_⟩)⟩
  have f1 : ∀ p ∈ [(b, 1), (b, 2), (b, 3)], p.1 = b := by simp
  exact f1 p z
theorem ANb_n : ∀ b ∈ ANb, b ∈ ANn := by decide
theorem kx_number (ty : kTY σ) (w : KWd σ0 B σ ws nm ks) {b : Nat} (hb : b ∈ ANb) (v : Int64) : kjY kPP (kQQ Y) (d + 5) 58 0 (mjL0 3 [.ref b, .long v]) [] σ (wP σ0 B σ ws nm ks) := by
  have hb := ANb_n b hb
  obtain ⟨l, hl⟩ := w.2.2.2.2.2.1 b hb
  exact kjY_mono ty (fun _ _ _ _ q => w.op ty hb q) (k_number ty w.2.1.1 (ANn_b b hb).1 hl v (opQ_an hb w.2.1.2 l))
theorem kx_nil (ty : kTY σ) (w : KWd σ0 B σ ws nm ks) {b : Nat} (hb : b ∈ ANb) : kjY kPP (kQQ Y) (d + 5) 59 0 (mjL0 1 [.ref b]) [] σ (wP σ0 B σ ws nm ks) := by
  have hb := ANb_n b hb
  obtain ⟨l, hl⟩ := w.2.2.2.2.2.1 b hb
  exact kjY_mono ty (fun _ _ _ _ q => w.op ty hb q) (k_nil ty w.2.1.1 (ANn_b b hb).1 hl (opQ_an hb w.2.1.2 l))
theorem kx_head (ty : kTY σ) (w : KWd σ0 B σ ws nm ks) {b : Nat} (hb : b ∈ ANb) (x : Int32) (v : Int64) : kjY kPP (kQQ Y) (d + 4) 47 0 (mjL0 5 [.ref b, .int x, .long v]) [] σ (wP σ0 B σ ws nm ks) := by
  have hb := ANb_n b hb
  obtain ⟨l, hl⟩ := w.2.2.2.2.2.1 b hb
  exact kjY_mono ty (fun _ _ _ _ q => w.op ty hb q) (k_head ty w.2.1.1 (ANn_b b hb).1 hl x v (opQ_an hb w.2.1.2 l))
/-- whatever the number is -/
theorem kx_rowHead (ty : kTY σ) (w : KWd σ0 B σ ws nm ks) {b : Nat} (hb : b ∈ ANb) (x : Int32) : kjY kPP (kQQ Y) (d + 5) 60 0 (mjL0 2 [.ref b, .int x]) [] σ (wP σ0 B σ ws nm ks) := by
  have kb := ob_k ty (ANn_b b (ANb_n b hb)).1
  refine kjZ_y rfl rfl 5 _ _ _ _ ty ?_
  refine (And.intro (Nat.le_of_ble_eq_true rfl) (And.intro (Or.inl ⟨(Nat.le_of_ble_eq_true rfl), (by assumption)⟩) (And.intro (Nat.le_of_ble_eq_true rfl) (And.intro (Nat.le_of_ble_eq_true rfl) (kjY_mono ty (fun q_ u1 ty1 xu1 h_ => ?_) (kx_head ty w hb _ _))))))
  obtain ⟨rfl, w1⟩ := h_
  intro _ _
  refine kjZ_y rfl rfl 1 _ _ _ _ ty1 ?_
  refine And.intro rfl (And.intro rfl ?_)
  exact ⟨rfl, w1⟩
theorem kx_line (ty : kTY σ) (w : KWd σ0 B σ ws nm ks) {b : Nat} (hb : b ∈ ANb) (x : Int32) {i : Nat} (hi : i < 185) : kjY kPP (kQQ Y) (d + 6) 49 0 (mjL0 3 [.ref b, .int x, .ref (2000000 + i)]) [] σ (wP σ0 B σ ws nm ks) := by
  have hb := ANb_n b hb
  obtain ⟨l, hl⟩ := w.2.2.2.2.2.1 b hb
  exact kjY_mono ty (fun _ _ _ _ q => w.op ty hb q) (k_line ty w.2.1.1 (ANn_b b hb).1 hl x hi (opQ_an hb w.2.1.2 l))
theorem kx_text (ty : kTY σ) (w : KWd σ0 B σ ws nm ks) {b : Nat} (hb : b ∈ ANb) {i : Nat} (hi : i < 185) : kjY kPP (kQQ Y) (d + 6) 51 0 (mjL0 4 [.ref b, .ref (2000000 + i)]) [] σ (wP σ0 B σ ws nm ks) := by
  have hb := ANb_n b hb
  obtain ⟨l, hl⟩ := w.2.2.2.2.2.1 b hb
  exact kjY_mono ty (fun _ _ _ _ q => w.op ty hb q) (k_text ty w.2.1.1 (ANn_b b hb).1 hl hi (opQ_an hb w.2.1.2 l))
theorem kx_numberWord (ty : kTY σ) (w : KWd σ0 B σ ws nm ks) {b : Nat} (hb : b ∈ ANb) (v : Int64) : kjY kPP (kQQ Y) (d + 6) 52 0 (mjL0 5 [.ref b, .long v]) [] σ (wP σ0 B σ ws nm ks) := by
  have hb := ANb_n b hb
  obtain ⟨l, hl⟩ := w.2.2.2.2.2.1 b hb
  exact kjY_mono ty (fun _ _ _ _ q => w.op ty hb q) (k_numberWord ty w.2.1.1 (ANn_b b hb).1 hl v (opQ_an hb w.2.1.2 l))
/-- a field of one's own is set -/
theorem KWd.pi (ty : kTY σ) (w : KWd σ0 B σ ws nm ks) {h x : Nat} {v : Int32} (hm : (h, x) ∈ scF) : KWd σ0 B (mjIu σ.1 h x v, σ.2) ws nm ks := by
  have q : ∀ p ∈ scF, p.1 < 76 ∧ (kd0 p.1).1 < 20 ∧ (∀ b ∈ OWb, ¬ p = (b, 2)) ∧ ¬ p = (59, 6) := by decide +kernel
  obtain ⟨q1, q2, q3, q4⟩ := q _ hm
  have q1 : h < 76 := q1
  have q2 : (kd0 h).1 < 20 := q2
  refine w.scr ty (Ch_i (by rw [ty.2.2.1 h q1]; exact q2)) (fun p hp => by rw [List.mem_singleton.mp hp]; exact hm) (w.2.1.1.same (fun _ _ => rfl)) (w.2.1.2.same (fun p hp => kl_eq ty kEx_i hp rfl) (fun b hb => ?_) ?_ ⟨rfl, rfl⟩)
  · show mjIu σ.1 h x v b 2 = _
    rw [mjIu_at, if_neg (fun z => q3 b hb (by rw [← z.1, ← z.2]))]
  · show mjIu σ.1 h x v 59 6 = _
    rw [mjIu_at, if_neg (fun z => q4 (by rw [← z.1, ← z.2]))]
theorem KWd.pl (ty : kTY σ) (w : KWd σ0 B σ ws nm ks) {h x : Nat} {v : Int64} (hm : (h, x) ∈ scF) : KWd σ0 B (σ.1, mjLu σ.2.1 h x v, σ.2.2) ws nm ks := by
  have q : ∀ p ∈ scF, p.1 < 76 ∧ (kd0 p.1).1 < 20 := by decide +kernel
  obtain ⟨q1, q2⟩ := q _ hm
  have q1 : h < 76 := q1
  have q2 : (kd0 h).1 < 20 := q2
  exact w.scr ty (Ch_l (by rw [ty.2.2.1 h q1]; exact q2)) (fun p hp => by rw [List.mem_singleton.mp hp]; exact hm) (w.2.1.1.same (fun _ _ => rfl)) (w.2.1.2.same (fun p hp => kl_eq ty kEx_l hp rfl) (fun b hb => rfl) rfl ⟨rfl, rfl⟩)
theorem KWd.pf (ty : kTY σ) (w : KWd σ0 B σ ws nm ks) {o : Option Nat} : KWd σ0 B (σ.1, σ.2.1, kFu σ.2.2.1 53 7 o, σ.2.2.2) ws nm ks := by
  have e : ∀ p ∈ OWs, kFu σ.2.2.1 53 7 o p.1 p.2 = σ.2.2.1 p.1 p.2 := fun p hp => by
    have q : ∀ p ∈ OWs, ¬ (p.1 = 53 ∧ p.2 = 7) := by decide
    rw [kFu_at, if_neg (q p hp)]
  exact w.scr ty (Ch_f (os := []) (by rw [ty.k (h := 53) (c := 3) (by decide) rfl]; decide) (fun z => absurd z (by decide))) (fun p hp => by rw [List.mem_singleton.mp hp]; decide) (w.2.1.1.same e) (w.2.1.2.same (fun p hp => kl_eq ty kEx_f hp (e p hp)) (fun b hb => rfl) rfl ⟨rfl, rfl⟩)
theorem kx_refuse (ty : kTY σ) (w : KWd σ0 B σ ws nm ks) {i : Nat} (hi : i < 185) : kjY kPP (kQQ Y) d 98 0 (mjL0 2 [.ref 53, .ref (2000000 + i)]) [] σ (wP σ0 B σ ws nm ks) := by
  refine kjZ_y rfl rfl 4 _ _ _ _ ty ?_
  refine (And.intro (ty.k (by decide) rfl) (And.intro (Or.inr (Or.inr ⟨rfl, ⟨i, hi, rfl⟩⟩)) (fun ty' => And.intro rfl (And.intro rfl ?_))))
  have ch : Ch false [(53, 7)] [] σ (σ.1, σ.2.1, kFu σ.2.2.1 53 7 (some (2000000 + i)), σ.2.2.2) := Ch_f (os := []) (by rw [ty.k (h := 53) (c := 3) (by decide) rfl]; decide) (fun z => absurd z (by decide))
  exact ⟨rfl, w.pf ty, ch.sc ty (fun p hp => ⟨(scA_ok p hp).1, (scA_ok p hp).2.1, fun z => (scA_ok p hp).2.2.2.2.1 (List.mem_singleton.mp z)⟩)⟩
theorem kx_accept (ty : kTY σ) (w : KWd σ0 B σ ws nm ks) : kjY kPP (kQQ Y) (d + 7) 100 0 (mjL0 1 [.ref 53]) [] σ (wP σ0 B σ ws nm ks) := by
  obtain ⟨b, hb, e⟩ := w.2.2.2.2.2.2.1
  have kb := ob_k ty (ANn_b b (ANb_n b hb)).1
  refine kjZ_y rfl rfl 5 _ _ _ _ ty ?_
  refine (And.intro (ty.k (by decide) rfl) (Exists.intro _ (And.intro e (And.intro rfl (And.intro (Nat.le_of_ble_eq_true rfl) (And.intro (Or.inl ⟨(Nat.le_of_ble_eq_true rfl), (by assumption)⟩) (And.intro (Nat.le_of_ble_eq_true rfl) (And.intro (Nat.le_of_ble_eq_true rfl) (kjY_mono ty (fun q_ u1 ty1 xu1 h_ => ?_) (kx_line ty w hb _ (by decide)))))))))))
  obtain ⟨rfl, w1⟩ := h_
  intro _ _
  refine kjZ_y rfl rfl 1 _ _ _ _ ty1 ?_
  refine And.intro rfl (And.intro rfl ?_)
  exact ⟨rfl, w1⟩
/-- a word of the request: where it stands -/
theorem KWd.arg (w : KWd σ0 B σ ws nm ks) {i : Nat} {v : List Int32} (hv : ws[i]? = some v) : ∃ g M a, (σ.2.2.1 53 3 = some g ∧ σ.2.2.2.1 g = (21, M) ∧ M ≤ 600000) ∧ (∃ p ∈ RQo, σ.2.2.1 p.1 p.2 = some g) ∧ σ.1 53 4 = nI ws.length ∧ i < ws.length ∧ ws.length ≤ 1024 ∧ σ.1 54 i = nI a ∧ σ.1 55 i = nI v.length ∧ a + v.length ≤ M ∧ wd (σ.1 g) a v.length = v := by
  obtain ⟨g, M, h1, h2, ⟨h3, h4⟩, h5⟩ := w.2.2.2.1
  obtain ⟨a, a1, a2, a3, a4⟩ := h5 i v hv
  exact ⟨g, M, a, h1, h2, h3, (List.getElem?_eq_some_iff.mp hv).1, h4, a1, a2, a3, a4⟩
theorem RQ.ne (ow : OWN σ) {g : Nat} (h : ∃ p ∈ RQo, σ.2.2.1 p.1 p.2 = some g) {q : Nat × Nat} (hq : q ∈ OWs) (hn : ¬ q ∈ RQo) : ¬ σ.2.2.1 q.1 q.2 = some g := by
  obtain ⟨p, hp, e⟩ := h
  intro z
  have a : ∀ p ∈ RQo, p ∈ OWs := by decide
  exact hn (by rw [ow q hq p (a p hp) (z.trans e.symm)]; exact hp)
theorem kx_lengthOf (ty : kTY σ) (w : KWd σ0 B σ ws nm ks) {i : Nat} {v : List Int32} (hv : ws[i]? = some v) (x : Int32) (ex : x = nI i) : kjY kPP (kQQ Y) d 102 0 (mjL0 2 [.ref 53, .int x]) [] σ (fun r u => u = σ ∧ r = some (.int (nI v.length))) := by
  obtain ⟨g, M, a, h1, h2, h3, h4, h4', h5, h6, h7, h8⟩ := w.arg hv
  refine kjZ_y rfl rfl 2 _ _ _ _ ty ?_
  refine And.intro (fun c => ?_) (fun c => ?_)
  · exact absurd (show x < 0 from c) (by rw [ex]; exact nI_n0 (by omega))
  refine kjZ_y rfl rfl 4 _ _ _ _ ty ?_
  refine (And.intro (ty.k (by decide) rfl) (And.intro (fun c2 => ?_) (fun c2 => ?_)))
  rotate_left
  · exact absurd (show x < σ.1 53 4 by rw [ex, h3, nlt (by omega) (by omega)]; exact h4) c2
  have vx : vp_in x 1024 := by rw [ex]; exact vp_in_nI (by omega) (by decide)
  refine kjZ_y rfl rfl 5 _ _ _ _ ty ?_
  refine (And.intro (ty.k (by decide) rfl) (Or.inl (And.intro (ty.k (by decide) rfl) (And.intro (kdw ty (by decide) rfl vx) (And.intro rfl (And.intro (Or.inl rfl) ?_))))))
  refine ⟨rfl, ?_⟩
  show some (Value.int (σ.1 55 x.toNatClampNeg)) = _
  rw [ex, nI_clamp (by omega), h6]
theorem kx_startOf (ty : kTY σ) (w : KWd σ0 B σ ws nm ks) {i : Nat} {v : List Int32} (hv : ws[i]? = some v) (x : Int32) (ex : x = nI i) : kjY kPP (kQQ Y) d 101 0 (mjL0 2 [.ref 53, .int x]) [] σ (fun r u => u = σ ∧ ∃ g M a, r = some (.int (nI a)) ∧ (σ.2.2.1 53 3 = some g ∧ σ.2.2.2.1 g = (21, M) ∧ M ≤ 600000) ∧ (∃ p ∈ RQo, σ.2.2.1 p.1 p.2 = some g) ∧ a + v.length ≤ M ∧ wd (σ.1 g) a v.length = v) := by
  obtain ⟨g, M, a, h1, h2, h3, h4, h4', h5, h6, h7, h8⟩ := w.arg hv
  refine kjZ_y rfl rfl 2 _ _ _ _ ty ?_
  refine And.intro (fun c => ?_) (fun c => ?_)
  · exact absurd (show x < 0 from c) (by rw [ex]; exact nI_n0 (by omega))
  refine kjZ_y rfl rfl 4 _ _ _ _ ty ?_
  refine (And.intro (ty.k (by decide) rfl) (And.intro (fun c2 => ?_) (fun c2 => ?_)))
  rotate_left
  · exact absurd (show x < σ.1 53 4 by rw [ex, h3, nlt (by omega) (by omega)]; exact h4) c2
  have vx : vp_in x 1024 := by rw [ex]; exact vp_in_nI (by omega) (by decide)
  refine kjZ_y rfl rfl 5 _ _ _ _ ty ?_
  refine (And.intro (ty.k (by decide) rfl) (Or.inl (And.intro (ty.k (by decide) rfl) (And.intro (kdw ty (by decide) rfl vx) (And.intro rfl (And.intro (Or.inl rfl) ?_))))))
  refine ⟨rfl, g, M, a, ?_, h1, h2, h7, h8⟩
  show some (Value.int (σ.1 54 x.toNatClampNeg)) = _
  rw [ex, nI_clamp (by omega), h5]
def BOK (B ws : List (List Int32)) : Prop := sl B ≤ 235000 ∧ B.length + 1 ≤ 36000 ∧ [] ∈ B ∧ ∀ w ∈ ws, w ∈ B
/-- the number of a word is found, or it comes -/
def wiP (σ0 : kS) (B : List (List Int32)) (σ : kS) (ws nm : List (List Int32)) (ks : List KC) (v : List Int32) : kK := fun r u => ∃ k nm', r = some (.int (nI k)) ∧ nm'[k]? = some v ∧ PRE nm nm' ∧ KWd σ0 B u ws nm' ks ∧ SCl scA σ u
theorem kx_idOf (ty : kTY σ) (w : KWd σ0 B σ ws nm ks) (hB : BOK B ws) {g M a n : Nat} (kg : σ.2.2.2.1 g = (21, M)) (hM : M ≤ 600000) (ha : a + n ≤ M) (hg : ¬ σ.2.2.1 48 0 = some g) (hv : wd (σ.1 g) a n ∈ B) (x2 x3 : Int32) (e2 : x2 = nI a) (e3 : x3 = nI n) :
    kjY kPP (kQQ Y) (d + 4) 76 0 (mjL0 9 [.ref 48, .ref g, .int x2, .int x3]) [] σ (wiP σ0 B σ ws nm ks (wd (σ.1 g) a n)) := by
  have hnd : nm.Nodup := by
    obtain ⟨rb, NB, rs, NS, rc, -, -, -, -, -, -, -, a6, -⟩ := w.2.2.1.1
    exact a6
  have hsub : wd (σ.1 g) a n ∉ nm → (nm ++ [wd (σ.1 g) a n]).Nodup ∧ ∀ z ∈ nm ++ [wd (σ.1 g) a n], z ∈ B := fun hn => ⟨by
    rw [List.nodup_append]
    exact ⟨hnd, List.nodup_cons.mpr ⟨List.not_mem_nil, List.nodup_nil⟩, fun p hp q hq => by rw [List.mem_singleton.mp hq]; exact fun z => hn (z ▸ hp)⟩, fun z hz => by
    rcases List.mem_append.mp hz with y | y
    · exact w.2.2.1.2 z y
    · rw [List.mem_singleton.mp y]; exact hv⟩
  refine kjY_mono ty (fun r u _ _ q => ?_) (k_idOf ty w.2.1.1 w.2.1.2 w.2.2.1.1 kg hM ha hg (fun hn => ?_) x2 x3 e2 e3)
  · obtain ⟨i, nm', q1, q2, q3, q4, q5, q6, q7⟩ := q
    have hsc : SCl scA σ u := q7.sc ty (fun p hp => ⟨(scA_ok p hp).1, (scA_ok p hp).2.1, (scA_ok p hp).2.2.1⟩)
    rcases q3 with rfl | ⟨q3, rfl⟩
    · exact ⟨i, nm', q1, q2, PRE.rf, w.wrd ty q7 q5 q6 q4 PRE.rf w.2.2.1.2, hsc⟩
    · exact ⟨i, _, q1, q2, ⟨_, rfl⟩, w.wrd ty q7 q5 q6 q4 ⟨_, rfl⟩ (hsub q3).2, hsc⟩
  · obtain ⟨s1, s2⟩ := hsub hn
    have l1 := sl_sub s1 s2
    have l2 := List.Nodup.length_le_of_subset s1 s2
    rw [sl_app] at l1
    rw [List.length_append] at l2
    have l1 : sl nm + ((wd (σ.1 g) a n).length + 0) ≤ sl B := l1
    rw [wd_len] at l1
    have l2 : nm.length + 1 ≤ B.length := l2
    have := hB.1; have := hB.2.1
    omega
theorem kx_id (ty : kTY σ) (w : KWd σ0 B σ ws nm ks) (hB : BOK B ws) {i : Nat} {v : List Int32} (hv : ws[i]? = some v) (x : Int32) (ex : x = nI i) : kjY kPP (kQQ Y) (d + 5) 103 0 (mjL0 2 [.ref 53, .int x]) [] σ (wiP σ0 B σ ws nm ks v) := by
  obtain ⟨g, M, a, h1, h2, h3, h4, h4', h5, h6, h7, h8⟩ := w.arg hv
  have vx : vp_in x 1024 := by rw [ex]; exact vp_in_nI (by omega) (by decide)
  have cx : x.toNatClampNeg = i := by rw [ex]; exact nI_clamp (by omega)
  have hng : ¬ σ.2.2.1 48 0 = some g := RQ.ne w.2.1.1 h2 (q := (48, 0)) (by decide) (by decide)
  have e1 : σ.1 54 x.toNatClampNeg = nI a := by rw [cx]; exact h5
  have e2 : σ.1 55 x.toNatClampNeg = nI v.length := by rw [cx]; exact h6
  refine kjZ_y rfl rfl 2 _ _ _ _ ty ?_
  refine And.intro (fun c => ?_) (fun c => ?_)
  · exact absurd (show x < 0 from c) (by rw [ex]; exact nI_n0 (by omega))
  refine kjZ_y rfl rfl 4 _ _ _ _ ty ?_
  refine (And.intro (ty.k (by decide) rfl) (And.intro (fun c2 => ?_) (fun c2 => ?_)))
  rotate_left
  · exact absurd (show x < σ.1 53 4 by rw [ex, h3, nlt (by omega) (by omega)]; exact h4) c2
  refine kjZ_y rfl rfl 13 _ _ _ _ ty ?_
  refine (And.intro (ty.k (by decide) rfl) (And.intro (ty.k (by decide) rfl) (Exists.intro _ (And.intro h1.1 (And.intro (ty.k (by decide) rfl) (Or.inl (And.intro (ty.k (by decide) rfl) (And.intro (kdw ty (by decide) rfl vx) (And.intro (ty.k (by decide) rfl) (Or.inl (And.intro (ty.k (by decide) rfl) (And.intro (kdw ty (by decide) rfl vx) (And.intro (Nat.le_of_ble_eq_true rfl) (And.intro (Or.inl ⟨(Nat.le_of_ble_eq_true rfl), (ty.k (by decide) rfl)⟩) (And.intro (Nat.le_of_ble_eq_true rfl) (And.intro (Nat.le_of_ble_eq_true rfl) (kjY_mono ty (fun q_ u1 ty1 xu1 h_ => ?_) (kx_idOf ty w hB h1.2.1 h1.2.2 h7 hng (by rw [h8]; exact hB.2.2.2 v (List.mem_of_getElem? hv)) _ _ e1 e2))))))))))))))))))
  have q1 := h_
  intro _ _
  rw [h8] at q1
  obtain ⟨k, nm', rfl, q⟩ := q1
  refine kjZ_y rfl rfl 1 _ _ _ _ ty1 ?_
  refine And.intro rfl (And.intro (Or.inl rfl) ?_)
  exact ⟨k, nm', rfl, q⟩
/-- a word of the request is copied to an answer -/
theorem kx_copyArg (ty : kTY σ) (w : KWd σ0 B σ ws nm ks) {b : Nat} (hb : b ∈ ANb) (x : Int32) : kjY kPP (kQQ Y) (d + 5) 104 0 (mjL0 3 [.ref 53, .int x, .ref b]) [] σ (wP σ0 B σ ws nm ks) := by
  have hbn := ANb_n b hb
  have kb := ob_k ty (ANn_b b hbn).1
  obtain ⟨l, hl⟩ := w.2.2.2.2.2.1 b hbn
  obtain ⟨g, M, h1, h2, ⟨h3, h4⟩, h5⟩ := w.2.2.2.1
  have fin : kjY kPP (kQQ Y) (d + 5) 104 18 [some (.ref 53), some (.int x), some (.ref b)] [] σ (wP σ0 B σ ws nm ks) := by
    refine kjZ_y rfl rfl 1 _ _ _ _ ty ?_
    refine And.intro rfl (And.intro rfl ?_)
    exact ⟨rfl, w, SCl.rf⟩
  refine kjZ_y rfl rfl 2 _ _ _ _ ty ?_
  refine And.intro (fun c => ?_) (fun c => ?_)
  · exact fin
  refine kjZ_y rfl rfl 4 _ _ _ _ ty ?_
  refine (And.intro (ty.k (by decide) rfl) (And.intro (fun c2 => ?_) (fun c2 => ?_)))
  · exact fin
  obtain ⟨i, ei, hi⟩ := nat_of (n := ws.length) (by omega) c (by have z := Int32.not_le.mp (show ¬ σ.1 53 4 ≤ x from c2); rw [h3] at z; exact z)
  obtain ⟨a, a1, a2, a3, a4⟩ := h5 i _ (List.getElem?_eq_getElem hi)
  have vx : vp_in x 1024 := by rw [ei]; exact vp_in_nI (by omega) (by decide)
  have cx : x.toNatClampNeg = i := by rw [ei]; exact nI_clamp (by omega)
  have hng : ¬ σ.2.2.1 b 1 = some g := RQ.ne w.2.1.1 h2 (q := (b, 1)) (ow_b (ANn_b b hbn).1) (by
    have q : ∀ b ∈ ANn, ¬ (b, 1) ∈ RQo := by decide
    exact q b hbn)
  refine kjZ_y rfl rfl 12 _ _ _ _ ty ?_
  refine (And.intro (ty.k (by decide) rfl) (Exists.intro _ (And.intro h1.1 (And.intro (ty.k (by decide) rfl) (Or.inl (And.intro (ty.k (by decide) rfl) (And.intro (kdw ty (by decide) rfl vx) (And.intro (ty.k (by decide) rfl) (Or.inl (And.intro (ty.k (by decide) rfl) (And.intro (kdw ty (by decide) rfl vx) (And.intro (Nat.le_of_ble_eq_true rfl) (And.intro (Or.inl ⟨(Nat.le_of_ble_eq_true rfl), (by assumption)⟩) (And.intro (Nat.le_of_ble_eq_true rfl) (And.intro (Nat.le_of_ble_eq_true rfl) (kjY_mono ty (fun q_ u1 ty1 xu1 h_ => ?_) (k_word ty w.2.1.1 (ANn_b b hbn).1 hl h1.2.1 h1.2.2 a3 hng _ _ (by rw [cx]; exact a1) (by rw [cx]; exact a2) (opQ_an hbn w.2.1.2 l))))))))))))))))))
  have q1 := h_
  intro _ _
  have q2 := w.op ty hbn q1
  obtain ⟨rfl, w1⟩ := q2
  refine kjZ_y rfl rfl 1 _ _ _ _ ty1 ?_
  refine And.intro rfl (And.intro rfl ?_)
  exact ⟨rfl, w1⟩
/-- a word is copied to an answer, if there is one of that number -/
theorem kx_copyWord (ty : kTY σ) (w : KWd σ0 B σ ws nm ks) {b : Nat} (hb : b ∈ ANb) (x : Int32) : kjY kPP (kQQ Y) (d + 5) 80 0 (mjL0 3 [.ref 48, .int x, .ref b]) [] σ (wP σ0 B σ ws nm ks) := by
  have hbn := ANb_n b hb
  have kb := ob_k ty (ANn_b b hbn).1
  obtain ⟨l, hl⟩ := w.2.2.2.2.2.1 b hbn
  have hw := w.2.2.1.1
  by_cases z : ∃ i v, x = nI i ∧ nm[i]? = some v
  · obtain ⟨i, v, e1, e2⟩ := z
    exact kjY_mono ty (fun _ _ _ _ q => w.op ty hbn q) (k_copyWord ty w.2.1.1 hw (ANn_b b hbn).1 hl e2 x e1 (opQ_an hbn w.2.1.2 l))
  · obtain ⟨rb, NB, rs, NS, rc, ⟨b1, b2, b3, b3'⟩, ⟨s1, s2, s3, s4, s5, s5'⟩, a1, a2, -⟩ := hw
    have fin : kjY kPP (kQQ Y) (d + 5) 80 25 [some (.ref 48), some (.int x), some (.ref b)] [] σ (wP σ0 B σ ws nm ks) := by
      refine kjZ_y rfl rfl 1 _ _ _ _ ty ?_
      refine And.intro rfl (And.intro rfl ?_)
      exact ⟨rfl, w, SCl.rf⟩
    refine kjZ_y rfl rfl 2 _ _ _ _ ty ?_
    refine And.intro (fun c => ?_) (fun c => ?_)
    · exact fin
    refine kjZ_y rfl rfl 4 _ _ _ _ ty ?_
    refine (And.intro (ty.k (by decide) rfl) (And.intro (fun c2 => ?_) (fun c2 => ?_)))
    · exact fin
    obtain ⟨i, ei, hi⟩ := nat_of (n := nm.length) (by omega) c (by have y := Int32.not_le.mp (show ¬ σ.1 48 4 ≤ x from c2); rw [a2] at y; exact y)
    exact absurd ⟨i, _, ei, List.getElem?_eq_getElem hi⟩ z
end KWREQ
