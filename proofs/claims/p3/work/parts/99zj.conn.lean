/-! The connections: blocks, inputs, channels; what is told to them. -/
section CONNS
variable {Y : Nat → MethodName × ByteArray} {d : Nat}
abbrev Req : Type := List (List Int32)
/-- two and three bytes as a number -/
def d2 (R : Nat → Int32) (p : Nat) : Int32 := ((R p &&& (Int16.ofInt 255).toInt32) <<< ((Int8.ofInt 8).toInt32 &&& 31)) ||| (R (p + 1) &&& (Int16.ofInt 255).toInt32)
def d3 (R : Nat → Int32) (p : Nat) : Int32 := ((R p &&& (Int16.ofInt 255).toInt32) <<< ((Int8.ofInt 16).toInt32 &&& 31)) ||| ((R (p + 1) &&& (Int16.ofInt 255).toInt32) <<< ((Int8.ofInt 8).toInt32 &&& 31)) ||| (R (p + 2) &&& (Int16.ofInt 255).toInt32)
def qsz : Req → Nat
  | [] => 0
  | w :: r => 3 + w.length + qsz r
def QW (R : Nat → Int32) : Nat → Req → Prop
  | _, [] => True
  | p, w :: r => d3 R p = nI w.length ∧ wd R (p + 3) w.length = w ∧ QW R (p + 3 + w.length) r
def QE (R : Nat → Int32) (p : Nat) (q : Req) : Prop := d2 R p = nI q.length ∧ QW R (p + 2) q
theorem QW.fr {R R' : Nat → Int32} {e : Nat} (h : ∀ j, j < e → R' j = R j) : ∀ (q : Req) (p : Nat), p + qsz q ≤ e → QW R p q → QW R' p q := by
  intro q
  induction q with
  | nil => intro p _ _; exact trivial
  | cons w r ih =>
    intro p hp hq
    have hz : qsz (w :: r) = 3 + w.length + qsz r := rfl
    refine ⟨?_, ?_, ih _ (by omega) hq.2.2⟩
    · rw [← hq.1]; unfold d3; rw [h p (by omega), h (p + 1) (by omega), h (p + 2) (by omega)]
    · exact (wd_congr (fun k hk => h _ (by omega))).trans hq.2.1
theorem QE.fr {R R' : Nat → Int32} {e p : Nat} {q : Req} (h : ∀ j, j < e → R' j = R j) (hp : p + 2 + qsz q ≤ e) (hq : QE R p q) : QE R' p q := by
  refine ⟨?_, hq.2.fr h q (p + 2) hp⟩
  rw [← hq.1]; unfold d2; rw [h p (by omega), h (p + 1) (by omega)]
def CX1 (σ : mjS) (qe ce c I : Nat) (G : List Req) : Prop := (σ.2.2.1 r_inSize c = nI I ∧ I ≤ 65536 ∧ (σ.2.2.1 r_opened c = 0 → I = 0)) ∧ bnd σ r_outSize c 65536 ∧ (σ.2.2.1 r_queued c = nI G.length ∧ G.length ≤ 200 ∧ ∀ k q, G[k]? = some q → ∃ p : Nat, σ.2.2.1 r_queuedAt (200 * c + k) = nI p ∧ p + 2 + qsz q ≤ qe ∧ QE (σ.2.2.1 r_queue) p q) ∧ ∃ n : Nat, n ≤ 32 ∧ σ.2.2.1 r_channels c = nI n ∧ ∀ i, i < n → ∃ a m : Nat, σ.2.2.1 r_channelAt (32 * c + i) = nI a ∧ σ.2.2.1 r_channelLen (32 * c + i) = nI m ∧ a + m ≤ ce
/-- the connections: what waits in each, the block of each; how far the rows of blocks, watches and channels are filled -/
def CX (σ : mjS) (qe we ce : Nat) (I : Nat → Nat) (G : Nat → List Req) : Prop := (∀ c, c < 4 → CX1 σ qe ce c (I c) (G c)) ∧ (σ.1 f_queueEnd = nI qe ∧ qe ≤ 200000) ∧ (σ.1 f_watchEnd = nI we ∧ we ≤ 50000) ∧ σ.1 f_channelEnd = nI ce ∧ ce ≤ 50000
abbrev cxF : List Nat := [f_queueEnd, f_watchEnd, f_channelEnd]
abbrev cxH : List Nat := [r_opened, r_inSize, r_outSize, r_queued, r_queuedAt, r_queue, r_channels, r_channelAt, r_channelLen]
theorem CX.fr {σ u : mjS} {fs hs : List Nat} {qe we ce : Nat} {I : Nat → Nat} {G : Nat → List Req} (h : CX σ qe we ce I G) (f : Fr fs hs σ u) (h1 : ∀ k ∈ cxF, k ∉ fs) (h2 : ∀ k ∈ cxH, k ∉ hs) : CX u qe we ce I G := by
  have e : ∀ k ∈ cxH, u.2.2.1 k = σ.2.2.1 k := fun k hk => (f.2.2 k (h2 k hk)).1
  obtain ⟨a, b, c, d⟩ := h
  refine ⟨fun k hk => ?_, by rw [f.1 _ (h1 _ (by decide))]; exact b, by rw [f.1 _ (h1 _ (by decide))]; exact c, by rw [f.1 _ (h1 _ (by decide))]; exact d⟩
  have a := a k hk
  unfold CX1 bnd at a ⊢
  rw [e r_opened (by decide), e r_inSize (by decide), e r_outSize (by decide), e r_queued (by decide), e r_queuedAt (by decide), e r_queue (by decide), e r_channels (by decide), e r_channelAt (by decide), e r_channelLen (by decide)]
  exact a
theorem CX.mk {σ u : mjS} {qe we ce : Nat} {I I' : Nat → Nat} {G G' : Nat → List Req} (h : CX σ qe we ce I G) (hf : ∀ k ∈ cxF, u.1 k = σ.1 k) (hr : ∀ g ∈ [r_queuedAt, r_queue, r_channelAt, r_channelLen], u.2.2.1 g = σ.2.2.1 g)
    (hk : ∀ k, k < 4 → (u.2.2.1 r_inSize k = nI (I' k) ∧ I' k ≤ 65536 ∧ (u.2.2.1 r_opened k = 0 → I' k = 0)) ∧ bnd u r_outSize k 65536 ∧ ((G' k = G k ∧ u.2.2.1 r_queued k = σ.2.2.1 r_queued k) ∨ (G' k = [] ∧ u.2.2.1 r_queued k = 0)) ∧ (u.2.2.1 r_channels k = σ.2.2.1 r_channels k ∨ u.2.2.1 r_channels k = 0)) : CX u qe we ce I' G' := by
  obtain ⟨a, b, c, d⟩ := h
  refine ⟨fun k h4 => ?_, by rw [hf _ (by decide)]; exact b, by rw [hf _ (by decide)]; exact c, by rw [hf _ (by decide)]; exact d⟩
  obtain ⟨-, -, ⟨a1, a2, a3⟩, n, b1, b2, b3⟩ := a k h4
  obtain ⟨c1, c2, c3, c4⟩ := hk k h4
  refine ⟨c1, c2, ?_, ?_⟩
  · rw [hr r_queuedAt (by decide), hr r_queue (by decide)]
    rcases c3 with ⟨e1, e2⟩ | ⟨e1, e2⟩
    · rw [e1, e2]; exact ⟨a1, a2, a3⟩
    · rw [e1, e2]; exact ⟨rfl, Nat.zero_le _, fun k q z => by simp at z⟩
  · rw [hr r_channelAt (by decide), hr r_channelLen (by decide)]
    rcases c4 with e | e
    · rw [e]; exact ⟨n, b1, b2, b3⟩
    · rw [e]; exact ⟨0, Nat.zero_le _, rfl, fun i hi => absurd hi (Nat.not_lt_zero i)⟩
/-- nothing comes to any connection; some may have been closed -/
def CL (I I' : Nat → Nat) (G G' : Nat → List Req) : Prop := ∀ k, (I' k = I k ∧ G' k = G k) ∨ (I' k = 0 ∧ G' k = [])
theorem CL.rf {I : Nat → Nat} {G : Nat → List Req} : CL I I G G := fun _ => Or.inl ⟨rfl, rfl⟩
theorem CL.tr {I I' I'' : Nat → Nat} {G G' G'' : Nat → List Req} (h : CL I I' G G') (g : CL I' I'' G' G'') : CL I I'' G G'' := fun k => by
  rcases g k with ⟨a, b⟩ | g
  · rw [a, b]; exact h k
  · exact Or.inr g
def I0 (I : Nat → Nat) (c : Nat) : Nat → Nat := fun k => if k = c then 0 else I k
def G0 (G : Nat → List Req) (c : Nat) : Nat → List Req := fun k => if k = c then [] else G k
theorem CL.z (I : Nat → Nat) (G : Nat → List Req) (c : Nat) : CL I (I0 I c) G (G0 G c) := fun k => by
  unfold I0 G0
  by_cases q : k = c
  · rw [if_pos q, if_pos q]; exact Or.inr ⟨rfl, rfl⟩
  · rw [if_neg q, if_neg q]; exact Or.inl ⟨rfl, rfl⟩
/-- some rows get 0 at one place -/
def zrS (σ : mjS) (hs : List Nat) (c : Nat) : mjS := (σ.1, σ.2.1, fun g k => if g ∈ hs ∧ k = c then 0 else σ.2.2.1 g k, σ.2.2.2)
theorem zrS_fr (σ : mjS) (hs : List Nat) (c : Nat) : Fr [] hs σ (zrS σ hs c) := ⟨fun _ _ => rfl, fun _ _ => rfl, fun g hg => ⟨funext (fun _ => if_neg (fun z => hg z.1)), rfl⟩⟩
theorem zrS_p {σ : mjS} {hs : List Nat} {c g : Nat} (h : g ∈ hs) : (zrS σ hs c).2.2.1 g c = 0 := if_pos ⟨h, rfl⟩
theorem zrS_n {σ : mjS} {hs : List Nat} {c g k : Nat} (h : g ∉ hs ∨ k ≠ c) : (zrS σ hs c).2.2.1 g k = σ.2.2.1 g k := if_neg (fun z => h.elim (fun y => y z.1) (fun y => y z.2))
theorem zrS_cons (σ : mjS) (hs : List Nat) (c g : Nat) : (σ.1, σ.2.1, mjIu (zrS σ hs c).2.2.1 g c 0, σ.2.2.2) = zrS σ (g :: hs) c := by
  unfold zrS
  refine congrArg (fun x => (σ.1, σ.2.1, x, σ.2.2.2)) (funext (fun h => funext (fun k => ?_)))
  rw [mjIu_at]
  show (if h = g ∧ k = c then 0 else if h ∈ hs ∧ k = c then 0 else σ.2.2.1 h k) = if h ∈ g :: hs ∧ k = c then 0 else σ.2.2.1 h k
  by_cases a : h = g
  · by_cases b : k = c
    · rw [if_pos ⟨a, b⟩, if_pos ⟨by rw [a]; exact List.mem_cons_self, b⟩]
    · rw [if_neg (fun z => b z.2), if_neg (fun z => b z.2), if_neg (fun z => b z.2)]
  · rw [if_neg (fun z => a z.1)]
    by_cases m : h ∈ hs ∧ k = c
    · rw [if_pos m, if_pos ⟨List.mem_cons_of_mem _ m.1, m.2⟩]
    · rw [if_neg m, if_neg (fun z => (List.mem_cons.mp z.1).elim a (fun y => m ⟨y, z.2⟩))]
theorem zrS_nil (σ : mjS) (c : Nat) : zrS σ [] c = σ := by
  unfold zrS
  refine congrArg (fun x => (σ.1, σ.2.1, x, σ.2.2.2)) (funext (fun h => funext (fun k => ?_)))
  rw [if_neg (fun z => by cases z.1)]
abbrev ebH : List Nat := [r_disturbed, r_watches, r_queued, r_spoilt, r_blocked]
abbrev c2H : List Nat := [r_channels, r_disturbed, r_watches, r_queued, r_spoilt, r_blocked, r_inSize, r_opened]
theorem zrS_app (σ : mjS) (hs gs : List Nat) (c : Nat) : zrS (zrS σ gs c) hs c = zrS σ (hs ++ gs) c := by
  unfold zrS
  refine congrArg (fun x => (σ.1, σ.2.1, x, σ.2.2.2)) (funext (fun h => funext (fun k => ?_)))
  show (if h ∈ hs ∧ k = c then 0 else if h ∈ gs ∧ k = c then 0 else σ.2.2.1 h k) = if h ∈ hs ++ gs ∧ k = c then 0 else σ.2.2.1 h k
  by_cases b : k = c
  · by_cases m : h ∈ hs
    · rw [if_pos ⟨m, b⟩, if_pos ⟨List.mem_append_left _ m, b⟩]
    · rw [if_neg (fun z => m z.1)]
      by_cases n : h ∈ gs
      · rw [if_pos ⟨n, b⟩, if_pos ⟨List.mem_append_right _ n, b⟩]
      · rw [if_neg (fun z => n z.1), if_neg (fun z => (List.mem_append.mp z.1).elim m n)]
  · rw [if_neg (fun z => b z.2), if_neg (fun z => b z.2), if_neg (fun z => b z.2)]
set_option maxRecDepth 100000 in
theorem x_endBlock {σ : mjS} (ty : mjTY σ) {c : Nat} (h4 : c < 4) {x1 : Int32} (e1 : x1 = nI c) : mjY mjPP (mjQQ Y) d 21 0 (mjL0 2 [.ref 0, .int x1]) [] σ (fun r u => r = none ∧ u = zrS σ ebH c) := by
  have vi : vp_in x1 4 := by rw [e1]; exact vp_in_nI h4 (by decide)
  have ci : x1.toNatClampNeg = c := by rw [e1]; exact nI_clamp (by omega)
  refine mjZ_y rfl rfl 26 _ _ _ _ ty ?_
  refine (And.intro rfl (And.intro (Or.inr ⟨rfl, Or.inl rfl⟩) (And.intro vi (fun ty' => (And.intro rfl (And.intro (Or.inr ⟨rfl, Or.inl rfl⟩) (And.intro vi (fun ty'' => (And.intro rfl (And.intro rfl (And.intro vi (fun ty''' => (And.intro rfl (And.intro rfl (And.intro vi (fun ty'''' => (And.intro rfl (And.intro (Or.inr ⟨rfl, Or.inl rfl⟩) (And.intro vi (fun ty''''' => And.intro rfl (And.intro rfl ?_)))))))))))))))))))))
  refine ⟨rfl, ?_⟩
  rw [ci]
  rw [← zrS_cons, ← zrS_cons, ← zrS_cons, ← zrS_cons, ← zrS_cons, zrS_nil]
  rfl
set_option maxRecDepth 100000 in
theorem x_close {σ : mjS} (ty : mjTY σ) {c : Nat} (h4 : c < 4) {x1 : Int32} (e1 : x1 = nI c) : mjY mjPP (mjQQ Y) (d + 1) 22 0 (mjL0 2 [.ref 0, .int x1]) [] σ (fun r u => r = none ∧ u = zrS σ c2H c) := by
  have vi : vp_in x1 4 := by rw [e1]; exact vp_in_nI h4 (by decide)
  have ci : x1.toNatClampNeg = c := by rw [e1]; exact nI_clamp (by omega)
  refine mjZ_y rfl rfl 10 _ _ _ _ ty ?_
  refine (And.intro rfl (And.intro (Or.inr ⟨rfl, Or.inl rfl⟩) (And.intro vi (fun ty' => (And.intro rfl (And.intro rfl (And.intro vi (fun ty'' => ?_))))))))
  have go : ∀ u : mjS, mjTY u → u = zrS σ [r_inSize, r_opened] c → mjY mjPP (mjQQ Y) (d + 1) 22 10 [some (.ref 0), some (.int x1)] [] u (fun r u => r = none ∧ u = zrS σ c2H c) := by
    intro u tu eu
    refine mjZ_y rfl rfl 3 _ _ _ _ tu ?_
    refine (And.intro (Nat.le_of_ble_eq_true rfl) (And.intro rfl (And.intro (Nat.le_of_ble_eq_true rfl) (And.intro (Nat.le_of_ble_eq_true rfl) (mjY_mono tu (fun q_ u1 ty1 h_ => ?_) (x_endBlock tu h4 e1))))))
    obtain ⟨rfl, eu1⟩ := h_
    intro _
    refine mjZ_y rfl rfl 6 _ _ _ _ ty1 ?_
    refine (And.intro rfl (And.intro rfl (And.intro vi (fun ty1' => And.intro rfl (And.intro rfl ?_)))))
    refine ⟨rfl, ?_⟩
    rw [ci, eu1, eu, zrS_app]
    exact zrS_cons σ _ c r_channels
  refine go _ ty'' ?_
  rw [ci, ← zrS_cons, ← zrS_cons, zrS_nil]
  rfl
theorem WT_z {σ : mjS} (h : WT σ) (hs : List Nat) (c : Nat) (h1 : r_watchAt ∉ hs) (h2 : r_watchLen ∉ hs) : WT (zrS σ hs c) := by
  intro k hk
  by_cases q : r_watches ∈ hs ∧ k = c
  · obtain ⟨q1, rfl⟩ := q
    exact ⟨0, by omega, zrS_p q1, fun w hw => absurd hw (Nat.not_lt_zero w)⟩
  · obtain ⟨n, a, b, e⟩ := h k hk
    refine ⟨n, a, (if_neg q).trans b, fun w hw => ?_⟩
    obtain ⟨x, y, z⟩ := e w hw
    exact ⟨x, y, (if_neg (fun z => h1 z.1)).trans z.1, (if_neg (fun z => h2 z.1)).trans z.2.1, z.2.2⟩
theorem CX_z {σ : mjS} {qe we ce : Nat} {I : Nat → Nat} {G : Nat → List Req} (h : CX σ qe we ce I G) (c : Nat) : CX (zrS σ c2H c) qe we ce (I0 I c) (G0 G c) := by
  refine h.mk (fun _ _ => rfl) (fun g hg => (zrS_fr σ c2H c).2.2 g ((by decide : ∀ g ∈ [r_queuedAt, r_queue, r_channelAt, r_channelLen], g ∉ c2H) g hg) |>.1) (fun k hk => ?_)
  obtain ⟨a, b, -⟩ := h.1 k hk
  unfold I0 G0
  by_cases q : k = c
  · subst q
    rw [if_pos rfl, if_pos rfl]
    refine ⟨⟨zrS_p (by decide), Nat.zero_le _, fun _ => rfl⟩, ?_, Or.inr ⟨rfl, zrS_p (by decide)⟩, Or.inr (zrS_p (by decide))⟩
    unfold bnd; rw [zrS_n (Or.inl (by decide))]; exact b
  · rw [if_neg q, if_neg q]
    refine ⟨by rw [zrS_n (g := r_inSize) (Or.inr q), zrS_n (g := r_opened) (Or.inr q)]; exact a, ?_, Or.inl ⟨rfl, zrS_n (Or.inr q)⟩, Or.inl (zrS_n (Or.inr q))⟩
    unfold bnd; rw [zrS_n (Or.inr q)]; exact b
theorem CX_eb {σ : mjS} {qe we ce : Nat} {I : Nat → Nat} {G : Nat → List Req} (h : CX σ qe we ce I G) (c : Nat) : CX (zrS σ ebH c) qe we ce I (G0 G c) := by
  refine h.mk (fun _ _ => rfl) (fun g hg => (zrS_fr σ ebH c).2.2 g ((by decide : ∀ g ∈ [r_queuedAt, r_queue, r_channelAt, r_channelLen], g ∉ ebH) g hg) |>.1) (fun k hk => ?_)
  obtain ⟨a, b, -⟩ := h.1 k hk
  unfold G0
  refine ⟨by rw [zrS_n (g := r_inSize) (Or.inl (by decide)), zrS_n (g := r_opened) (Or.inl (by decide))]; exact a, by unfold bnd; rw [zrS_n (Or.inl (by decide))]; exact b, ?_, Or.inl (zrS_n (Or.inl (by decide)))⟩
  by_cases q : k = c
  · subst q
    rw [if_pos rfl]; exact Or.inr ⟨rfl, zrS_p (by decide)⟩
  · rw [if_neg q]; exact Or.inl ⟨rfl, zrS_n (Or.inr q)⟩
abbrev teH : List Nat := r_output :: r_outSize :: c2H
set_option maxRecDepth 100000 in
theorem c_tell_loop (K : mjK) {c o n : Nat} (h4 : c < 4) (hon : o + n ≤ 65536) (x1 : Int32) (e1 : x1 = nI c) : ∀ (j k : Nat) (σ : mjS) (x2 : Int32), x2 = nI k → k + j = n → mjTY σ → σ.2.2.1 r_outSize c = nI o → σ.1 f_answerSize = nI n → (∀ u x2, mjTY u → Fr [] [r_output] σ u → mjY mjPP (mjQQ Y) d 41 52 [some (.ref 0), some (.int x1), some (.int x2)] [] u K) →
    mjY mjPP (mjQQ Y) d 41 29 [some (.ref 0), some (.int x1), some (.int x2)] [] σ K := by
  have v1 : vp_in x1 4 := by rw [e1]; exact vp_in_nI h4 (by decide)
  have c1 : x1.toNatClampNeg = c := by rw [e1]; exact nI_clamp (by omega)
  intro j
  induction j with
  | zero =>
    intro k σ x2 e2 hk ty eo en hK
    refine mjZ_y rfl rfl 4 _ _ _ _ ty ?_
    refine (And.intro rfl (And.intro (fun q => ?_) (fun q => ?_)))
    · exact hK σ _ ty Fr.rf
    · exact absurd (show σ.1 f_answerSize ≤ x2 by rw [en, e2]; exact nI_le (by omega) (by omega)) q
  | succ j ih =>
    intro k σ x2 e2 hk ty eo en hK
    refine mjZ_y rfl rfl 4 _ _ _ _ ty ?_
    refine (And.intro rfl (And.intro (fun q => ?_) (fun q => ?_)))
    · exact absurd (show σ.1 f_answerSize ≤ x2 from q) (by rw [en, e2]; exact nI_ge (by omega) (by omega))
    have eo1 : σ.2.2.1 r_outSize x1.toNatClampNeg = nI o := by rw [c1]; exact eo
    have ei : Int32.ofInt 65536 * x1 + σ.2.2.1 r_outSize x1.toNatClampNeg + x2 = nI (65536 * c + o + k) := by rw [eo1, e1, e2, nI_mul65536, nI_add]
    refine mjZ_y rfl rfl 19 _ _ _ _ ty ?_
    refine (And.intro rfl (And.intro rfl (And.intro rfl (And.intro v1 (And.intro rfl (And.intro (Or.inl rfl) (And.intro (show vp_in x2 70000 by rw [e2]; exact vp_in_nI (by omega) (by decide)) (And.intro (Or.inl ⟨rfl, ty.2.1 49 _ rfl⟩) (And.intro (show vp_in (Int32.ofInt 65536 * x1 + σ.2.2.1 r_outSize x1.toNatClampNeg + x2) 262144 by rw [ei]; exact vp_in_nI (by omega) (by decide)) (fun ty' => ?_))))))))))
    exact ih (k + 1) _ _ (by rw [e2]; exact nI_1 k) (by omega) ty' eo en (fun u x2 tu fu => hK u x2 tu ((Fr.a (by decide)).tr fu))
set_option maxRecDepth 100000 in
theorem c_tell {σ : mjS} (ty : mjTY σ) (ho : oOk σ) (hw : WT σ) {qe we ce : Nat} {I : Nat → Nat} {G : Nat → List Req} (h : CX σ qe we ce I G) {c : Nat} (h4 : c < 4) {x1 : Int32} (e1 : x1 = nI c) : mjY mjPP (mjQQ Y) (d + 2) 41 0 (mjL0 3 [.ref 0, .int x1]) [] σ (fun r u => r = none ∧ Fr [] teH σ u ∧ WT u ∧ ∃ I' G', CX u qe we ce I' G' ∧ CL I I' G G') := by
  have v1 : vp_in x1 4 := by rw [e1]; exact vp_in_nI h4 (by decide)
  have c1 : x1.toNatClampNeg = c := by rw [e1]; exact nI_clamp (by omega)
  obtain ⟨⟨n, hn, en⟩, -⟩ := ho
  obtain ⟨-, ⟨o, hob, eo⟩, -⟩ := h.1 c h4
  have cl : mjY mjPP (mjQQ Y) (d + 2) 41 18 [some (.ref 0), some (.int x1), none] [] σ (fun r u => r = none ∧ Fr [] teH σ u ∧ WT u ∧ ∃ I' G', CX u qe we ce I' G' ∧ CL I I' G G') := by
    refine mjZ_y rfl rfl 5 _ _ _ _ ty ?_
    refine (And.intro rfl (And.intro rfl (And.intro v1 (fun ty' => ?_))))
    have go : ∀ u : mjS, mjTY u → u = zrS σ [r_outSize] c → mjY mjPP (mjQQ Y) (d + 2) 41 23 [some (.ref 0), some (.int x1), none] [] u (fun r u => r = none ∧ Fr [] teH σ u ∧ WT u ∧ ∃ I' G', CX u qe we ce I' G' ∧ CL I I' G G') := by
      intro u tu eu
      have fu : Fr [] [r_outSize] σ u := by rw [eu]; exact zrS_fr _ _ _
      have hu : CX u qe we ce I G := by
        refine h.mk (fun k _ => fu.1 k (by simp)) (fun g hg => (fu.2.2 g ((by decide : ∀ g ∈ [r_queuedAt, r_queue, r_channelAt, r_channelLen], g ∉ [r_outSize]) g hg)).1) (fun k hk => ?_)
        obtain ⟨a, ⟨m, hm, em⟩, -⟩ := h.1 k hk
        refine ⟨by rw [(fu.2.2 r_inSize (by decide)).1, (fu.2.2 r_opened (by decide)).1]; exact a, ?_, Or.inl ⟨rfl, by rw [(fu.2.2 _ (by decide)).1]⟩, Or.inl (by rw [(fu.2.2 _ (by decide)).1])⟩
        by_cases q : k = c
        · exact ⟨0, Nat.zero_le _, by rw [eu, q]; exact zrS_p (by decide)⟩
        · exact ⟨m, hm, by rw [eu, zrS_n (Or.inr q)]; exact em⟩
      have wu : WT u := hw.fr fu (by decide) (by decide) (by decide)
      refine mjZ_y rfl rfl 3 _ _ _ _ tu ?_
      refine (And.intro (Nat.le_of_ble_eq_true rfl) (And.intro rfl (And.intro (Nat.le_of_ble_eq_true rfl) (And.intro (Nat.le_of_ble_eq_true rfl) (mjY_mono tu (fun q_ u1 ty1 h_ => ?_) (x_close tu h4 e1))))))
      obtain ⟨rfl, eu1⟩ := h_
      intro _
      refine mjZ_y rfl rfl 1 _ _ _ _ ty1 ?_
      refine And.intro rfl (And.intro rfl ?_)
      refine ⟨rfl, ?_, ?_, I0 I c, G0 G c, ?_, CL.z I G c⟩
      · rw [eu1]; exact (fu.up (by decide) (by decide)).tr ((zrS_fr u c2H c).up (by decide) (by decide))
      · rw [eu1]; exact WT_z wu _ _ (by decide) (by decide)
      · rw [eu1]; exact CX_z hu c
    refine go _ ty' ?_
    rw [c1, ← zrS_cons, zrS_nil]
    rfl
  refine mjZ_y rfl rfl 5 _ _ _ _ ty ?_
  refine (And.intro rfl (And.intro (Or.inr rfl) (And.intro v1 (And.intro (fun q => ?_) (fun q => ?_)))))
  · refine mjZ_y rfl rfl 3 _ _ _ _ ty ?_
    refine (And.intro rfl (And.intro (fun r => ?_) (fun r => ?_)))
    · exact cl
    · refine mjZ_y rfl rfl 9 _ _ _ _ ty ?_
      refine (And.intro rfl (And.intro rfl (And.intro v1 (And.intro rfl (And.intro (fun s => ?_) (fun s => ?_))))))
      · have hs : o + n ≤ 65536 := by
          refine Nat.le_of_not_lt (fun z => ?_)
          have s : σ.2.2.1 r_outSize x1.toNatClampNeg + σ.1 f_answerSize ≤ Int32.ofInt 65536 := s
          rw [c1, eo, en, nI_add] at s
          exact absurd s (nI_ge (b := o + n) (a := 65536) z (by omega))
        refine mjZ_y rfl rfl 2 _ _ _ _ ty ?_
        refine (And.intro (Nat.le_of_ble_eq_true rfl) ?_)
        refine c_tell_loop _ h4 hs x1 e1 n 0 σ _ rfl (by omega) ty eo en (fun u x2 tu fu => ?_)
        have eou : u.2.2.1 r_outSize x1.toNatClampNeg + u.1 f_answerSize = nI (o + n) := by rw [c1, (fu.2.2 _ (by decide)).1, fu.1 _ (by decide), eo, en, nI_add]
        refine mjZ_y rfl rfl 10 _ _ _ _ tu ?_
        refine (And.intro rfl (And.intro rfl (And.intro v1 (And.intro rfl (And.intro rfl (And.intro v1 (fun tu' => And.intro rfl (And.intro rfl ?_))))))))
        have fin : ∀ z : mjS, Fr [] [r_output, r_outSize] σ z → z.2.2.1 r_outSize = upd (σ.2.2.1 r_outSize) c (nI (o + n)) → Fr [] teH σ z ∧ WT z ∧ ∃ I' G', CX z qe we ce I' G' ∧ CL I I' G G' := by
          intro z f3 ez
          refine ⟨f3.up (by decide) (by decide), hw.fr f3 (by decide) (by decide) (by decide), I, G, ?_, CL.rf⟩
          refine h.mk (fun k _ => f3.1 k (by simp)) (fun g hg => (f3.2.2 g ((by decide : ∀ g ∈ [r_queuedAt, r_queue, r_channelAt, r_channelLen], g ∉ [r_output, r_outSize]) g hg)).1) (fun k hk => ?_)
          obtain ⟨a, ⟨m, hm, em⟩, -⟩ := h.1 k hk
          refine ⟨by rw [(f3.2.2 r_inSize (by decide)).1, (f3.2.2 r_opened (by decide)).1]; exact a, ?_, Or.inl ⟨rfl, by rw [(f3.2.2 _ (by decide)).1]⟩, Or.inl (by rw [(f3.2.2 _ (by decide)).1])⟩
          unfold bnd
          rw [ez]
          by_cases q : k = c
          · exact ⟨o + n, hs, by rw [q]; exact pk_us (f := σ.2.2.1 r_outSize) (k := c) (x := nI (o + n))⟩
          · exact ⟨m, hm, by rw [pk_un q]; exact em⟩
        refine ⟨rfl, fin _ ((fu.up (by decide) (by decide)).tr (Fr.a (h := r_outSize) (by decide))) ?_⟩
        show mjIu u.2.2.1 r_outSize x1.toNatClampNeg (u.2.2.1 r_outSize x1.toNatClampNeg + u.1 f_answerSize) r_outSize = _
        rw [eou, c1, mjIu_self, (fu.2.2 _ (by decide)).1]
      · exact cl
  · refine mjZ_y rfl rfl 1 _ _ _ _ ty ?_
    refine And.intro rfl (And.intro rfl ?_)
    exact ⟨rfl, Fr.rf, hw, I, G, h, CL.rf⟩
end CONNS
