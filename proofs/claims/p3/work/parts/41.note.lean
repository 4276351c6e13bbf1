/-! What is noted for the log, exactly. -/
def decN : Nat → Nat → List Int32
  | 0, m => [nI (48 + m % 10)]
  | f + 1, m => if m < 10 then [nI (48 + m)] else decN f (m / 10) ++ [nI (48 + m % 10)]
/-- a number's digits -/
def dec (v : Int64) : List Int32 := (if v < 0 then [45] else []) ++ decN 19 (mg v)
def dgs (m N : Nat) : List Int32 := (List.range (N + 1)).map (fun j => nI (48 + m / 10 ^ (N - j) % 10))
theorem dgs_s (m N : Nat) : dgs m (N + 1) = dgs (m / 10) N ++ [nI (48 + m % 10)] := by
  unfold dgs
  rw [List.range_succ, List.map_append]
  refine congr (congrArg _ (List.map_congr_left fun j hj => ?_)) ?_
  · have hj := List.mem_range.mp hj
    rw [show N + 1 - j = (N - j) + 1 by omega, Nat.pow_succ, Nat.mul_comm, ← Nat.div_div_eq_div_mul]
  · show [nI (48 + m / 10 ^ (N + 1 - (N + 1)) % 10)] = _
    rw [Nat.sub_self, Nat.pow_zero, Nat.div_one]
theorem dgs_dec : ∀ (N f m : Nat), N ≤ f → m / 10 / 10 ^ N = 0 → (N = 0 ∨ m / 10 / 10 ^ (N - 1) ≠ 0) → dgs m N = decN f m := by
  intro N
  induction N with
  | zero =>
    intro f m _ h1 _
    have h : m < 10 := by rw [Nat.pow_zero, Nat.div_one] at h1; omega
    have e : dgs m 0 = [nI (48 + m % 10)] := by
      show [nI (48 + m / 10 ^ 0 % 10)] = _
      rw [Nat.pow_zero, Nat.div_one]
    rw [e]
    cases f with
    | zero => rfl
    | succ f => show _ = (if m < 10 then _ else _); rw [if_pos h, Nat.mod_eq_of_lt h]
  | succ N ih =>
    intro f m hf h1 h2
    cases f with
    | zero => omega
    | succ f =>
      have h3 : m / 10 / 10 ^ N ≠ 0 := h2.elim (fun q => absurd q (Nat.succ_ne_zero N)) id
      have h : ¬ m < 10 := fun q => h3 (by rw [Nat.div_eq_of_lt q, Nat.zero_div])
      show dgs m (N + 1) = (if m < 10 then _ else _)
      rw [if_neg h, dgs_s]
      refine congrArg (· ++ _) (ih f (m / 10) (by omega) ?_ ?_)
      · rw [Nat.div_div_eq_div_mul (m / 10), ← Nat.pow_succ']; exact h1
      · cases N with
        | zero => exact Or.inl rfl
        | succ N =>
          refine Or.inr ?_
          rw [Nat.add_sub_cancel, Nat.div_div_eq_div_mul (m / 10), ← Nat.pow_succ']
          exact h3
theorem wd_app (f : Nat → Int32) (a n m : Nat) : wd f a (n + m) = wd f a n ++ wd f (a + n) m := by
  induction n generalizing a with
  | zero => rw [Nat.zero_add, wd_0, Nat.add_zero]; rfl
  | succ n ih => rw [show n + 1 + m = (n + m) + 1 by omega, wd_s, wd_s, ih, show a + (n + 1) = a + 1 + n by omega]; rfl
theorem spelt_dec {v : Int64} {u : mjS} (h : Spelt v u) : u.1 f_digitsSize = nI (dec v).length ∧ (dec v).length ≤ 20 ∧ wd (u.2.2.1 r_digits) 0 (dec v).length = dec v := by
  obtain ⟨s, N, h1, h2, h3, h4, h5, h6⟩ := h
  have e : wd (u.2.2.1 r_digits) s (N + 1) = decN 19 (mg v) := by
    rw [← dgs_dec N 19 (mg v) (by omega) h3 h4]
    unfold wd dgs
    exact List.map_congr_left fun j hj => h6 j (Nat.le_of_lt_succ (List.mem_range.mp hj))
  have el : (decN 19 (mg v)).length = N + 1 := by rw [← e, wd_len]
  rcases h2 with ⟨c, rfl, c45⟩ | ⟨c, rfl⟩
  · have hd : dec v = 45 :: decN 19 (mg v) := by show (if v < 0 then [45] else []) ++ _ = _; rw [if_pos c]; rfl
    rw [hd, List.length_cons, el]
    refine ⟨by rw [h5]; exact congrArg nI (by omega), by omega, ?_⟩
    rw [wd_s, c45]; exact congrArg _ e
  · have hd : dec v = decN 19 (mg v) := by show (if v < 0 then [45] else []) ++ _ = _; rw [if_neg c]; rfl
    rw [hd, el]
    exact ⟨by rw [h5]; exact congrArg nI (by omega), by omega, e⟩
theorem wd_iu {a : Nat → Nat → Int32} {h n : Nat} {v : Int32} : wd (mjIu a h n v h) 0 (n + 1) = wd (a h) 0 n ++ [v] := by
  rw [wd_app, wd_s, wd_0, Nat.zero_add, mjIu_at, if_pos ⟨rfl, rfl⟩]
  exact congrArg (· ++ [v]) (wd_congr fun k hk => by rw [mjIu_at, if_neg (fun q => by omega)])
theorem wd_snoc (f : Nat → Int32) (a n : Nat) : wd f a (n + 1) = wd f a n ++ [f (a + n)] := by rw [wd_app, wd_s, wd_0]
section NOTE
variable {Y : Nat → MethodName × ByteArray} {d : Nat} {σ : mjS}
abbrev nF : List Nat := [f_pendingSize, f_digitsSize]
abbrev nH : List Nat := [r_pending, r_digits]
/-- this is pending -/
def pnd (σ : mjS) (l : List Int32) : Prop := σ.1 f_pendingSize = nI l.length ∧ l.length ≤ 420000 ∧ wd (σ.2.2.1 r_pending) 0 l.length = l
theorem pnd_fr {fs hs : List Nat} {u : mjS} {l : List Int32} (h : pnd σ l) (f : Fr fs hs σ u) (h1 : f_pendingSize ∉ fs) (h2 : r_pending ∉ hs) : pnd u l := ⟨by rw [f.1 _ h1]; exact h.1, h.2.1, by rw [(f.2.2 _ h2).1]; exact h.2.2⟩
set_option maxRecDepth 100000 in
theorem c_note (ty : mjTY σ) {l : List Int32} (hp : pnd σ l) (hl : l.length < 420000) (b : Int32) : mjY mjPP (mjQQ Y) d 42 0 (mjL0 2 [.ref 0, .int b]) [] σ (fun v u => v = none ∧ Fr [f_pendingSize] [r_pending] σ u ∧ pnd u (l ++ [b.toInt8.toInt32])) := by
  obtain ⟨h1, h2, h3⟩ := hp
  refine mjZ_y rfl rfl 14 _ _ _ _ ty ?_
  refine And.intro rfl (And.intro rfl (And.intro (Or.inl ⟨rfl, b8 b⟩) (And.intro ?_ (fun ty1 => ?_))))
  · show vp_in (σ.1 f_pendingSize) 420000
    rw [h1]; exact vp_in_nI (by omega) (by omega)
  · refine And.intro rfl (And.intro rfl (And.intro (Or.inl rfl) (fun ty2 => And.intro rfl (And.intro rfl (And.intro rfl (And.intro ((Fr.a (by decide)).tr (Fr.i (by decide))) ?_))))))
    refine ⟨?_, by rw [List.length_append]; exact hl, ?_⟩
    · show upd σ.1 f_pendingSize (σ.1 f_pendingSize + 1) f_pendingSize = _
      rw [pk_us, h1, List.length_append]; exact nI_1 _
    · show wd (mjIu σ.2.2.1 r_pending (σ.1 f_pendingSize).toNatClampNeg b.toInt8.toInt32 r_pending) 0 _ = _
      rw [h1, nI_clamp (by omega), List.length_append, List.length_singleton, wd_iu, h3]
/-- a call of note: what is pending grows by a byte -/
theorem pnd_len {l : List Int32} (h : pnd σ l) : l.length ≤ 420000 := h.2.1
set_option maxRecDepth 100000 in
theorem c_noteNumber_loop (K : mjK) (s : Int32) (v : Int64) (D : Nat → Int32) (l : List Int32) (n : Nat) (hn : n ≤ 20) (hb : ∀ k, (D k).toInt8.toInt32 = D k) (hl : l.length + n + 2 ≤ 420000) : ∀ (j k : Nat) (σ : mjS) (x : Int32), x = nI k → k + j = n → mjTY σ → σ.1 f_digitsSize = nI n → σ.2.2.1 r_digits = D → pnd σ (l ++ wd D 0 k) →
    (∀ u, mjTY u → Fr [f_pendingSize] [r_pending] σ u → pnd u (l ++ wd D 0 n ++ [13, 10]) → K none u) → mjY mjPP (mjQQ Y) (d + 1) 43 8 [some (.ref 0), some (.int s), some (.long v), none, some (.int x)] [] σ K := by
  intro j
  induction j with
  | zero =>
    intro k σ x ex hk ty ez ed hp hK
    have ek : k = n := by omega
    subst ek
    refine mjZ_y rfl rfl 11 _ _ _ _ ty ?_
    refine And.intro rfl (And.intro (fun _ => ?_) (fun c => absurd (show σ.1 f_digitsSize ≤ x by rw [ez, ex]; exact nI_le (Nat.le_refl _) (by omega)) c))
    have hlen : (l ++ wd D 0 k).length = l.length + k := by rw [List.length_append, wd_len]
    refine And.intro (Nat.le_of_ble_eq_true rfl) (And.intro rfl (And.intro (Nat.le_of_ble_eq_true rfl) (And.intro (Nat.le_of_ble_eq_true rfl) (mjY_mono ty (fun v u1 ty1 h1 => ?_) (c_note (d := d) ty hp (by omega) _)))))
    obtain ⟨rfl, f1, p1⟩ := h1
    intro _
    refine And.intro (Nat.le_of_ble_eq_true rfl) (And.intro rfl (And.intro (Nat.le_of_ble_eq_true rfl) (And.intro (Nat.le_of_ble_eq_true rfl) (mjY_mono ty1 (fun v u2 ty2 h2 => ?_) (c_note (d := d) ty1 p1 (by rw [List.length_append]; show (l ++ wd D 0 k).length + 1 < _; omega) _)))))
    obtain ⟨rfl, f2, p2⟩ := h2
    intro _
    refine And.intro rfl (And.intro rfl (hK u2 ty2 (f1.tr f2) ?_))
    rw [List.append_assoc _ [_] [_]] at p2
    exact p2
  | succ j ih =>
    intro k σ x ex hk ty ez ed hp hK
    refine mjZ_y rfl rfl 12 _ _ _ _ ty ?_
    refine And.intro rfl (And.intro (fun c => absurd (show σ.1 f_digitsSize ≤ x from c) (by rw [ez, ex]; exact nI_ge (by omega) (by omega))) (fun _ => ?_))
    have hlen : (l ++ wd D 0 k).length = l.length + k := by rw [List.length_append, wd_len]
    refine And.intro rfl (And.intro (Or.inl rfl) (And.intro (by rw [ex]; exact vp_in_nI (by show k < 24; omega) (by decide)) ?_))
    refine And.intro (Nat.le_of_ble_eq_true rfl) (And.intro rfl (And.intro (Nat.le_of_ble_eq_true rfl) (And.intro (Nat.le_of_ble_eq_true rfl) (mjY_mono ty (fun v u1 ty1 h1 => ?_) (c_note (d := d) ty hp (by omega) _)))))
    obtain ⟨rfl, f1, p1⟩ := h1
    intro _
    refine ih (k + 1) u1 _ (by rw [ex]; exact nI_1 k) (by omega) ty1 (by rw [f1.1 f_digitsSize (by decide)]; exact ez) (by rw [(f1.2.2 r_digits (by decide)).1]; exact ed) ?_ (fun u tu fu pu => hK u tu (f1.tr fu) pu)
    have p1 : pnd u1 (l ++ wd D 0 k ++ [(σ.2.2.1 r_digits x.toNatClampNeg).toInt8.toInt32]) := p1
    rw [ex, nI_clamp (by omega), ed, hb, List.append_assoc] at p1
    rw [wd_snoc, Nat.zero_add]; exact p1
set_option maxRecDepth 100000 in
theorem c_noteNumber (ty : mjTY σ) {l : List Int32} (hp : pnd σ l) (hl : l.length + 23 ≤ 420000) (s : Int32) (hs : s.toInt8.toInt32 = s) (v : Int64) : mjY mjPP (mjQQ Y) (d + 1) 43 0 (mjL0 5 [.ref 0, .int s, .long v]) [] σ (fun r u => r = none ∧ Fr nF nH σ u ∧ pnd u (l ++ (s :: dec v ++ [13, 10]))) := by
  refine mjZ_y rfl rfl 8 _ _ _ _ ty ?_
  refine And.intro (Nat.le_of_ble_eq_true rfl) (And.intro rfl (And.intro (Nat.le_of_ble_eq_true rfl) (And.intro (Nat.le_of_ble_eq_true rfl) (mjY_mono ty (fun r u1 ty1 h1 => ?_) (c_note (d := d) ty hp (by omega) _)))))
  obtain ⟨rfl, f1, p1⟩ := h1
  rw [hs] at p1
  intro _
  refine And.intro (Nat.le_of_ble_eq_true rfl) (And.intro rfl (And.intro (Nat.le_of_ble_eq_true rfl) (And.intro (Nat.le_of_ble_eq_true rfl) (mjY_mono ty1 (fun r u2 ty2 h2 => ?_) (c_spell (d := d) ty1 v)))))
  obtain ⟨rfl, f2, sp⟩ := h2
  intro _
  obtain ⟨e1, e2, e3⟩ := spelt_dec sp
  refine And.intro (Nat.le_of_ble_eq_true rfl) ?_
  have hll : (l ++ [s]).length = l.length + 1 := by rw [List.length_append]; rfl
  refine c_noteNumber_loop _ s v (u2.2.2.1 r_digits) (l ++ [s]) (dec v).length e2 (fun k => ty2.2.1 r_digits k rfl) (by omega) (dec v).length 0 u2 _ rfl (by omega) ty2 e1 rfl ?_ (fun u tu fu pu => ⟨rfl, ((f1.up (by decide) (by decide)).tr (f2.up (by decide) (by decide))).tr (fu.up (by decide) (by decide)), ?_⟩)
  · rw [wd_0, List.append_nil]; exact pnd_fr p1 f2 (by decide) (by decide)
  · rw [e3] at pu
    simpa [List.append_assoc] using pu
end NOTE
