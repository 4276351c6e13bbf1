/-! Bytes: the digits of a number; what a whole write says. -/
def opP (σ : kS) (b : Nat) (l w : List Int32) : kK := fun v u => v = none ∧ Ch false [(b, 1), (b, 2), (b, 3)] [(b, 1)] σ u ∧ OWN u ∧ POT u ∧ ∃ l', kBY u b l' ∧ (σ.1 b 3 = 0 → l.length + w.length ≤ kMo b → l' = l ++ w ∧ u.1 b 3 = 0)
section KSP2
variable {Y : Nat → MethodName × ByteArray} {d : Nat} {σ : kS}
theorem Wi.ex {u : kS} {b r : Nat} (w : Wi b r σ u) : kEx σ u := by
  have e : u = (u.1, σ.2) := by rw [← w.1]
  rw [e]; exact kEx_i
theorem Wi.ch {u : kS} {b r N : Nat} {l : List Int32} (kb : (σ.2.2.2.1 b).1 = 0) (h : BR σ b r N l) (w : Wi b r σ u) : Ch false [(b, 2)] [(b, 1)] σ u := by
  have hF : u.2.2.1 = σ.2.2.1 := congrArg (fun t => t.2.1) w.1
  have hL : u.2.1 = σ.2.1 := congrArg (fun t => t.1) w.1
  refine ⟨w.ex, fun h2 y g1 g2 g3 => ⟨w.2 h2 y (fun z => ?_) (fun z => g3 ?_), by rw [hL], by rw [hF]⟩, fun g g1 g2 g3 => ⟨?_, by rw [hL], by rw [hF]⟩, fun p _ g hg => Or.inl (by rw [hF])⟩
  · rw [z, h.2.1] at g1; exact absurd (show (21 : Nat) < 20 from g1) (by decide)
  · rw [z.1, z.2]; exact List.mem_cons_self
  · funext y
    exact w.2 g y (fun z => g3 (b, 1) List.mem_cons_self (by rw [z]; exact h.1)) (fun z => by rw [z.1, kb] at g1; exact absurd g1 (by decide))
theorem op_no {u : kS} {b k : Nat} {l w : List Int32} (hb : b ∈ OWb) (hk : w.length = k) (h : (((¬ σ.1 b 3 = 0) ∨ kMo b < l.length + k) ∧ OWN u ∧ POT u ∧ Ch false [(b, 2), (b, 3)] [] σ u ∧ u.2 = σ.2 ∧ (∀ h x, ¬ h = b → u.1 h x = σ.1 h x) ∧ ∃ l', kBY u b l')) : opP σ b l w none u := by
  obtain ⟨h1, h2, h3, h4, h5, h6, l', h7⟩ := h
  refine ⟨rfl, h4.up (fun z => z) (fun p hp => List.mem_cons_of_mem _ hp) (fun p hp => by cases hp), h2, h3, l', h7, fun a1 a2 => ?_⟩
  rcases h1 with h1 | h1
  · exact absurd a1 h1
  · omega
theorem op_fin {u1 u2 : kS} {b r N k : Nat} {l w : List Int32} (ty : kTY σ) (t1 : kTY u1) (hb : b ∈ OWb) (ow : OWN u1) (po : PO u1 b (l.length + k)) (ch : Ch false [(b, 1)] [(b, 1)] σ u1) (h1 : BR u1 b r N l) (hw : Wi b r u1 u2) (h2 : BR u2 b r N (l ++ w)) (hk : w.length = k) : opP σ b l w none u2 := by
  have kb := ob_k ty hb
  have kb1 := ob_k t1 hb
  have hF : u2.2.2.1 = u1.2.2.1 := congrArg (fun t => t.2.1) hw.1
  have hcz : u2.2.2.2.2.2.1 = u1.2.2.2.2.2.1 ∧ u2.2.2.2.2.2.2 = u1.2.2.2.2.2.2 := ⟨congrArg (fun t => t.2.2.2.2.1) hw.1, congrArg (fun t => t.2.2.2.2.2) hw.1⟩
  have ho : ∀ p ∈ [(b, 1)], p ∈ OWs := fun p hp => by rw [List.mem_singleton.mp hp]; exact ow_b hb
  have rb : ∀ b', (u1.2.2.2.1 b').1 < 20 → ¬ b' = r := fun b' q z => by rw [z, h1.2.1] at q; exact absurd (show (21 : Nat) < 20 from q) (by decide)
  have c2 := hw.ch kb1 h1
  have u3 : u2.1 b 3 = σ.1 b 3 := by
    rw [hw.2 b 3 (rb b (by omega)) (fun z => absurd z.2 (by decide))]
    refine (ch.2.1 b 3 (by omega) (fun z => by cases z) ?_).1
    intro z
    have := congrArg Prod.snd (List.mem_singleton.mp z)
    exact absurd (show (3 : Nat) = 1 from this) (by decide)
  refine ⟨rfl, ?_, ow.same (fun p _ => by rw [hF]), ?_, l ++ w, ⟨r, N, h2⟩, fun a _ => ⟨rfl, by rw [u3]; exact a⟩⟩
  · refine Ch.tr ty ho (ch.up (fun z => z) (fun p hp => by rw [List.mem_singleton.mp hp]; exact List.mem_cons_self) (fun p hp => hp)) (c2.up (fun z => z) (fun p hp => by rw [List.mem_singleton.mp hp]; exact List.mem_cons_of_mem _ List.mem_cons_self) (fun p hp => hp))
  · refine POT_PO.mpr (po.same (b := b) ?_ (fun p hp => kl_eq t1 hw.ex hp (by rw [hF])) (fun b' hb' q => ?_) ?_ hcz)
    · rw [h2.ks, List.length_append, hk]; exact Nat.le_refl _
    · exact hw.2 b' 2 (rb b' (by rw [ob_k t1 hb']; decide)) (fun z => q z.1)
    · refine hw.2 59 6 (rb 59 (by rw [t1.k (by decide) (c := 4) rfl]; decide)) (fun z => absurd z.2 (by decide))
theorem nI_p1 (n : Nat) : nI (n + 1) - 1 = nI n := by
  have h := pk_sub (a := n + 1) (b := 1) (by omega)
  rw [Nat.add_sub_cancel] at h
  exact h
theorem i_m1 (y : Int32) : y + Int32.ofInt (-1) = y - 1 := by rw [Int32.sub_eq_add_neg, show Int32.ofInt (-1) = -1 from by decide]
/-- one digit: the rest is not above 0 -/
theorem dgt {a : Int64} (h : a.toInt ≤ 0) : (Int64.ofInt 48 - (a - a / Int64.ofInt 10 * Int64.ofInt 10)).toInt32.toInt8.toInt32 = nI (48 + mg a % 10) := by
  rw [t10]
  have e1 := rem10 a
  have e2 : a.toInt.tmod 10 = -((mg a % 10 : Nat) : Int) := by
    have q : a.toInt = -((mg a : Nat) : Int) := by unfold mg; omega
    rw [q, Int.neg_tmod]
    rfl
  have e3 : Int64.ofInt 48 - (a - a / 10 * 10) = lN (48 + mg a % 10) := by
    apply Int64.toInt_inj.mp
    rw [Int64.toInt_sub, e1, e2, pk_lT (by omega), show (Int64.ofInt 48).toInt = 48 from by decide]
    rw [Int.bmod_eq_of_le (by omega) (by omega)]
    omega
  rw [e3, lN_i, nI_b8 _ (by omega)]
theorem neg_div10 {a : Int64} (h : a.toInt ≤ 0) : (a / Int64.ofInt 10).toInt ≤ 0 ∧ mg (a / Int64.ofInt 10) = mg a / 10 := by
  rw [t10]
  refine ⟨?_, mg_10 a⟩
  have h10 : (10 : Int64).toInt = 10 := by decide
  rw [Int64.toInt_div_of_ne_right _ _ (by decide), h10]
  have q : a.toInt = -((mg a : Nat) : Int) := by unfold mg; omega
  rw [q, Int.neg_tdiv]
  have : (0 : Int) ≤ ((mg a : Nat) : Int).tdiv 10 := Int.tdiv_nonneg (Int.natCast_nonneg _) (by decide)
  omega
theorem k_spell_l (K : kK) (v : Int64) {b : Nat} (hb : b ∈ OWb) {r N s w m : Nat} (h3' : N ≤ 600000) (hN : s + w ≤ N) (x3 : Int32) (hbr : ¬ b = r) : ∀ (n : Nat) (σ : kS) (rest : Int64) (x6 : Int32), kTY σ → n ≤ w → σ.2.2.1 b 1 = some r → σ.2.2.2.1 r = (21, N) → σ.1 b 2 = nI s → x6 = nI (s + n) - 1 → rest.toInt ≤ 0 → mg rest = m / 10 ^ (w - n) →
    (∀ u rest x6, kTY u → Wi b r σ u → u.1 b 2 = nI s → (∀ t, t < n → u.1 r (s + t) = nI (48 + m / 10 ^ (w - 1 - t) % 10)) → (∀ j, ¬ (s ≤ j ∧ j < s + n) → u.1 r j = σ.1 r j) → kjY kPP (kQQ Y) d 56 42 [some (.ref b), some (.long v), none, some (.int x3), some (.long rest), none, some (.int x6)] [] u K) →
    kjY kPP (kQQ Y) d 56 16 [some (.ref b), some (.long v), none, some (.int x3), some (.long rest), none, some (.int x6)] [] σ K := by
  intro n
  induction n with
  | zero =>
    intro σ rest x6 ty hn hF hD hs e6 hr hm hK
    have kb := ob_k ty hb
    refine kjZ_y rfl rfl 4 _ _ _ _ ty ?_
    refine (And.intro (by assumption) (And.intro (fun c => ?_) (fun c => ?_)))
    · exact hK σ rest x6 ty Wi.rf hs (fun t ht => absurd ht (Nat.not_lt_zero _)) (fun _ _ => rfl)
    · refine absurd (show x6 < σ.1 b 2 from ?_) c
      rw [hs, e6]
      apply Int32.lt_iff_toInt_lt.mpr
      rw [show (1 : Int32) = nI 1 from rfl, nI_sub_toInt (by omega) (by omega), nI_toInt (by omega)]; omega
  | succ n ih =>
    intro σ rest x6 ty hn hF hD hs e6 hr hm hK
    have kb := ob_k ty hb
    have e6' : x6 = nI (s + n) := by rw [e6]; exact nI_p1 (s + n)
    refine kjZ_y rfl rfl 4 _ _ _ _ ty ?_
    refine (And.intro (by assumption) (And.intro (fun c => ?_) (fun c => ?_)))
    · refine absurd (show x6 < σ.1 b 2 from c) ?_
      rw [hs, e6']; exact Int32.not_lt.mpr (nI_le (by omega) (by omega))
    · refine kjZ_y rfl rfl 5 _ _ _ _ ty ?_
      refine (And.intro (by assumption) (Exists.intro _ (And.intro hF (Or.inl (And.intro (kdq hD) (And.intro (fun c2 => ?_) (fun c2 => ?_)))))))
      · refine absurd (show nI (σ.2.2.2.1 r).2 ≤ x6 from c2) ?_
        rw [hD, e6']; exact nI_ge (by omega) (by omega)
      · have vi : vp_in x6 N := by rw [e6']; exact vp_in_nI (by omega) (by omega)
        have ci : x6.toNatClampNeg = s + n := by rw [e6']; exact nI_clamp (by omega)
        refine kjZ_y rfl rfl 17 _ _ _ _ ty ?_
        refine (And.intro (by assumption) (Exists.intro _ (And.intro hF (And.intro (by decide) (And.intro ⟨(kdk hD), (b8 _)⟩ (And.intro (kdv hD vi) (fun ty' => (And.intro (by decide) (And.intro (Nat.le_of_ble_eq_true rfl) ?_)))))))))
        obtain ⟨q1, q2⟩ := neg_div10 hr
        have wi : Wi b r σ (mjIu σ.1 r x6.toNatClampNeg (Int64.ofInt 48 - (rest - rest / Int64.ofInt 10 * Int64.ofInt 10)).toInt32.toInt8.toInt32, σ.2) := ⟨rfl, fun h y p1 p2 => by show mjIu σ.1 r _ _ h y = _; rw [mjIu_at, if_neg (fun z => p1 z.1)]⟩
        refine ih _ _ _ ty' (by omega) hF hD ?_ ?_ q1 ?_ (fun u rest x6 tu wu su du ou => ?_)
        · show mjIu σ.1 r _ _ b 2 = _; rw [mjIu_at, if_neg (fun z => hbr z.1)]; exact hs
        · rw [e6']; exact i_m1 _
        · rw [q2, hm, show w - n = w - (n + 1) + 1 by omega, Nat.pow_succ, Nat.div_div_eq_div_mul]
        · refine hK u rest x6 tu (wi.tr wu) su (fun t ht => ?_) (fun j hj => ?_)
          · by_cases z : t = n
            · subst z
              rw [ou (s + t) (by omega)]
              show mjIu σ.1 r _ _ r (s + t) = _
              rw [mjIu_at, if_pos ⟨rfl, ci.symm⟩, dgt hr, hm, show w - (t + 1) = w - 1 - t by omega]
            · exact du t (by omega)
          · rw [ou j (by omega)]
            show mjIu σ.1 r _ _ r j = _
            rw [mjIu_at, if_neg (fun z => by rw [ci] at z; omega)]
end KSP2
