/-! Request: a line of words; reading, whole. -/
theorem sl_snoc (q : List (List Int32)) (w : List Int32) : sl (q ++ [w]) = sl q + w.length := by
  induction q with
  | nil => show w.length + 0 = 0 + w.length; omega
  | cons a r ih => show a.length + sl (r ++ [w]) = a.length + sl r + w.length; rw [ih]; omega
theorem swd_sz {b : Nat → Int32} {e : Nat} : ∀ (m p : Nat) (q : Req) (nx : Nat), swdF b e m p = some (some (q, nx)) → p + sl q + 5 * q.length ≤ nx ∧ (1 ≤ m → nx ≤ e) ∧ q.length = m := by
  intro m
  induction m with
  | zero =>
    intro p q nx h
    have h : some (some (([] : Req), p)) = some (some (q, nx)) := h
    cases h
    exact ⟨Nat.le_refl _, fun z => absurd z (by decide), rfl⟩
  | succ m ih =>
    intro p q nx h
    unfold swdF at h
    by_cases c1 : e ≤ p
    · rw [if_pos c1] at h; cases h
    rw [if_neg c1] at h
    by_cases c2 : ¬ b p = 36
    · rw [if_pos c2] at h; cases h
    rw [if_neg c2] at h
    cases hl : lnF b p e with
    | none => rw [hl] at h; cases h
    | some o =>
      cases o with
      | none => rw [hl] at h; cases h
      | some z =>
        have hz := lnF_le hl
        rw [hl, mz_z] at h
        by_cases c3 : z.1 < 0 ∨ 16384 < z.1
        · rw [if_pos c3] at h; cases h
        rw [if_neg c3] at h
        generalize z.1.toNatClampNeg = len at h
        by_cases c4 : (z.2 + len < e ∧ ¬ b (z.2 + len) = 13) ∨ (z.2 + len + 1 < e ∧ ¬ b (z.2 + len + 1) = 10)
        · rw [if_pos c4] at h; cases h
        rw [if_neg c4] at h
        by_cases c5 : e < z.2 + len + 2
        · rw [if_pos c5] at h; cases h
        rw [if_neg c5] at h
        cases hs : swdF b e m (z.2 + len + 2) with
        | none => rw [hs] at h; cases h
        | some o =>
          cases o with
          | none => rw [hs] at h; cases h
          | some r =>
            rw [hs, mz_z] at h
            have h : some (some (wd b z.2 len :: r.1, r.2)) = some (some (q, nx)) := h
            have e1 : wd b z.2 len :: r.1 = q := by cases h; rfl
            have e2 : r.2 = nx := by cases h; rfl
            obtain ⟨i1, i2, i3⟩ := ih _ r.1 r.2 hs
            rw [← e1, ← e2]
            refine ⟨?_, fun _ => ?_, by rw [List.length_cons, i3]⟩
            · have es : sl (wd b z.2 len :: r.1) = len + sl r.1 := by
                show (wd b z.2 len).length + sl r.1 = _
                rw [wd_len]
              rw [es, List.length_cons]; omega
            · by_cases hm : 1 ≤ m
              · exact i2 hm
              · have hm0 : m = 0 := by omega
                subst hm0
                have hs : some (some (([] : Req), z.2 + len + 2)) = some (some r) := hs
                cases hs
                show z.2 + len + 2 ≤ e; omega
theorem star_sz {b : Nat → Int32} {p e : Nat} {q : Req} {nx : Nat} (h : starF b p e = some (some (q, nx))) : p + sl q + 5 * q.length + 3 ≤ nx ∧ nx ≤ e := by
  unfold starF at h
  cases hl : lnF b p e with
  | none => rw [hl] at h; cases h
  | some o =>
    cases o with
    | none => rw [hl] at h; cases h
    | some z =>
      have hz := lnF_le hl
      rw [hl, mz_z] at h
      by_cases c3 : 1024 < z.1
      · rw [if_pos c3] at h; cases h
      rw [if_neg c3] at h
      obtain ⟨i1, i2, i3⟩ := swd_sz _ _ _ _ h
      refine ⟨by omega, ?_⟩
      by_cases hm : 1 ≤ (if z.1 < 0 then 0 else z.1.toNatClampNeg)
      · exact i2 hm
      · have hm0 : (if z.1 < 0 then 0 else z.1.toNatClampNeg) = 0 := by omega
        rw [hm0] at h
        have h : some (some (([] : Req), z.2)) = some (some (q, nx)) := h
        cases h; exact hz.2
section KREAD2
variable {Y : Nat → MethodName × ByteArray} {d : Nat} {σ : kS}
def rlP (σ : kS) (b : Nat → Int32) (p e : Nat) : kK := fun r u => RWx σ u ∧ ((∃ q nx, r = some (.int 0) ∧ u.1 53 4 = nI q.length ∧ q.length ≤ 1024 ∧ u.1 53 5 = nI nx ∧ p + rw q < nx + 1 ∧ p < nx ∧ nx ≤ e ∧ WP b e u q) ∨ (u.1 53 4 = 0 ∧ (r = some (.int 1) ∨ r = some (.int 6))))
theorem k_rl_scan (K : kK) (ty : kTY σ) {g M p L : Nat} (fr : σ.2.2.1 53 3 = some g) (kg : σ.2.2.2.1 g = (21, M)) (hM : M ≤ 600000) (hL : L ≤ M) (x1 x2 x3 : Int32) (e3 : x3 = nI L)
    (hK : ∀ q x4, p ≤ q → q ≤ L → x4 = nI q → kjY kPP (kQQ Y) d 96 19 [some (.ref 53), some (.int x1), some (.int x2), some (.int x3), some (.int x4), none, none, none] [] σ K) :
    ∀ (f q : Nat) (x4 : Int32), x4 = nI q → p ≤ q → q + f = L →
    kjY kPP (kQQ Y) d 96 8 [some (.ref 53), some (.int x1), some (.int x2), some (.int x3), some (.int x4), none, none, none] [] σ K := by
  have kk : (σ.2.2.2.1 g).1 = 21 := by rw [kg]
  intro f
  induction f with
  | zero =>
    intro q x4 e4 hq hf
    refine kjZ_y rfl rfl 3 _ _ _ _ ty ?_
    refine And.intro (fun c => ?_) (fun c => ?_)
    rotate_left
    · refine absurd (show x3 ≤ x4 from ?_) c
      rw [e3, e4, nle (by omega) (by omega)]; omega
    exact hK q x4 hq (by omega) e4
  | succ f ih =>
    intro q x4 e4 hq hf
    have v4 : vp_in x4 M := by rw [e4]; exact vp_in_nI (by omega) (by omega)
    refine kjZ_y rfl rfl 3 _ _ _ _ ty ?_
    refine And.intro (fun c => ?_) (fun c => ?_)
    · exact hK q x4 hq (by omega) e4
    refine kjZ_y rfl rfl 6 _ _ _ _ ty ?_
    refine (And.intro (ty.k (by decide) rfl) (Exists.intro _ (And.intro fr (Or.inl (And.intro (kdk kg) (And.intro (kdv kg v4) (And.intro (fun c1 => ?_) (fun c1 => ?_))))))))
    · exact hK q x4 hq (by omega) e4
    refine kjZ_y rfl rfl 2 _ _ _ _ ty ?_
    exact ih (q + 1) _ (by rw [e4]; exact nI_1 q) (by omega) (by omega)
theorem k_rl_l {g M p e E nx : Nat} (fr : σ.2.2.1 53 3 = some g) (kg : σ.2.2.2.1 g = (21, M)) (hM : M ≤ 600000) (hE : E < nx) (hnx : nx ≤ e) (he : e ≤ M) (hpE : p ≤ E) (h2048 : E ≤ p + 2048) (x1 x2 x3 x4 x5 : Int32) (e5 : x5 = nI E) (ty0 : kTY σ) :
    ∀ (f k from' : Nat) (q : List (List Int32)) (x6 x7 : Int32) (u : kS), x6 = nI from' → x7 = nI k → k + f = E + 1 → p ≤ from' → from' ≤ k → p + rw q ≤ from' → q.length ≤ 1024 → kTY u → RWx σ u → u.1 53 4 = nI q.length → u.1 53 5 = nI nx → WP (σ.1 g) e u q →
    kjY kPP (kQQ Y) d 96 57 [some (.ref 53), some (.int x1), some (.int x2), some (.int x3), some (.int x4), some (.int x5), some (.int x6), some (.int x7)] [] u (rlP σ (σ.1 g) p e) := by
  have n53 : ¬ g = 53 := fun z => by
    have h9 := ty0.k (h := 53) (c := 3) (by decide) rfl
    rw [← z, kg] at h9; exact absurd h9 (show ¬ (21 : Nat) = 3 by decide)
  have n54 : ¬ g = 54 := fun z => by
    have h9 := ty0.k (h := 54) (c := 20) (by decide) rfl
    rw [← z, kg] at h9; exact absurd h9 (show ¬ (21 : Nat) = 20 by decide)
  have n55 : ¬ g = 55 := fun z => by
    have h9 := ty0.k (h := 55) (c := 20) (by decide) rfl
    rw [← z, kg] at h9; exact absurd h9 (show ¬ (21 : Nat) = 20 by decide)
  have rowE : ∀ u, RWx σ u → u.2.2.1 53 3 = some g ∧ u.2.2.2.1 g = (21, M) ∧ u.1 g = σ.1 g := fun u h => ⟨by rw [show u.2.2.1 = σ.2.2.1 from congrArg (fun t => t.1) h.1]; exact fr, by rw [show u.2.2.2.1 = σ.2.2.2.1 from congrArg (fun t => t.2.1) h.1]; exact kg, funext fun x => h.2.1 g x (fun z => n53 z.1) n54 n55⟩
  intro f
  induction f with
  | zero =>
    intro k from' q x6 x7 u e6 e7 hk hpf hfk hsz hq tu ru u4 u5 hw
    refine kjZ_y rfl rfl 3 _ _ _ _ tu ?_
    refine And.intro (fun c => ?_) (fun c => ?_)
    rotate_left
    · refine absurd (show x5 < x7 from ?_) c
      rw [e5, e7, nlt (by omega) (by omega)]; omega
    refine kjZ_y rfl rfl 2 _ _ _ _ tu ?_
    refine And.intro rfl (And.intro (Or.inl rfl) ?_)
    exact ⟨ru, Or.inl ⟨q, nx, rfl, u4, hq, u5, by omega, by omega, hnx, hw⟩⟩
  | succ f ih =>
    intro k from' q x6 x7 u e6 e7 hk hpf hfk hsz hq tu ru u4 u5 hw
    obtain ⟨uf, ud, ui⟩ := rowE u ru
    have kk : (u.2.2.2.1 g).1 = 21 := by rw [ud]
    refine kjZ_y rfl rfl 3 _ _ _ _ tu ?_
    refine And.intro (fun c => ?_) (fun c => ?_)
    · refine absurd (show x5 < x7 from c) ?_
      rw [e5, e7, nlt (by omega) (by omega)]; omega
    have next : ∀ (z : kS) (q' : List (List Int32)) (from2 : Nat) (x6' : Int32), x6' = nI from2 → p ≤ from2 → from2 ≤ k + 1 → p + rw q' ≤ from2 → q'.length ≤ 1024 → kTY z → RWx σ z → z.1 53 4 = nI q'.length → z.1 53 5 = nI nx → WP (σ.1 g) e z q' → kjY kPP (kQQ Y) d 96 100 [some (.ref 53), some (.int x1), some (.int x2), some (.int x3), some (.int x4), some (.int x5), some (.int x6'), some (.int x7)] [] z (rlP σ (σ.1 g) p e) := by
      intro z q' from2 x6' a1 a2 a3 a4 a5 tz rz z4 z5 wz
      refine kjZ_y rfl rfl 2 _ _ _ _ tz ?_
      exact ih (k + 1) from2 q' _ _ z a1 (by rw [e7]; exact nI_1 k) (by omega) a2 a3 a4 a5 tz rz z4 z5 wz
    have s96 : ∀ (z : kS) (q' : List (List Int32)), p + rw q' ≤ k + 1 → q'.length ≤ 1024 → kTY z → RWx σ z → z.1 53 4 = nI q'.length → z.1 53 5 = nI nx → WP (σ.1 g) e z q' → kjY kPP (kQQ Y) d 96 96 [some (.ref 53), some (.int x1), some (.int x2), some (.int x3), some (.int x4), some (.int x5), some (.int x6), some (.int x7)] [] z (rlP σ (σ.1 g) p e) := by
      intro z q' a4 a5 tz rz z4 z5 wz
      refine kjZ_y rfl rfl 4 _ _ _ _ tz ?_
      refine (And.intro (Nat.le_of_ble_eq_true rfl) ?_)
      exact next z q' (k + 1) _ (by rw [e7]; exact nI_1 k) (by omega) (Nat.le_refl _) a4 a5 tz rz z4 z5 wz
    have s69 : kjY kPP (kQQ Y) d 96 69 [some (.ref 53), some (.int x1), some (.int x2), some (.int x3), some (.int x4), some (.int x5), some (.int x6), some (.int x7)] [] u (rlP σ (σ.1 g) p e) := by
      refine kjZ_y rfl rfl 3 _ _ _ _ tu ?_
      refine And.intro (fun c1 => ?_) (fun c1 => ?_)
      · exact s96 u q (by omega) hq tu ru u4 u5 hw
      have c1 : ¬ x7 ≤ x6 := c1
      rw [e6, e7, nle (by omega) (by omega)] at c1
      refine kjZ_y rfl rfl 4 _ _ _ _ tu ?_
      refine (And.intro (tu.k (by decide) rfl) (And.intro (fun c2 => ?_) (fun c2 => ?_)))
      · exact s96 u q (by omega) hq tu ru u4 u5 hw
      have c2 : ¬ nI 1024 ≤ u.1 53 4 := c2
      rw [u4, nle (by omega) (by omega)] at c2
      have vq : vp_in (u.1 53 4) 1024 := by rw [u4]; exact vp_in_nI (by omega) (by decide)
      have cq : (u.1 53 4).toNatClampNeg = q.length := by rw [u4]; exact nI_clamp (by omega)
      refine kjZ_y rfl rfl 6 _ _ _ _ tu ?_
      refine (And.intro (tu.k (by decide) rfl) (And.intro (tu.k (by decide) rfl) (And.intro (tu.k (by decide) rfl) (And.intro (kdw tu (by decide) rfl vq) (fun tu' => ?_)))))
      have go : ∀ z, kTY z → z = (mjIu u.1 54 (u.1 53 4).toNatClampNeg x6, u.2) → kjY kPP (kQQ Y) d 96 82 [some (.ref 53), some (.int x1), some (.int x2), some (.int x3), some (.int x4), some (.int x5), some (.int x6), some (.int x7)] [] z (rlP σ (σ.1 g) p e) := by
        intro z tz ez
        rw [cq] at ez
        have zI : ∀ h x, z.1 h x = if h = 54 ∧ x = q.length then x6 else u.1 h x := fun h x => by
          rw [ez]; show mjIu u.1 54 _ _ h x = _; rw [mjIu_at]
        have z4 : z.1 53 4 = nI q.length := by rw [zI, if_neg (fun y => absurd y.1 (by decide))]; exact u4
        have vz : vp_in (z.1 53 4) 1024 := by rw [z4]; exact vp_in_nI (by omega) (by decide)
        have cz : (z.1 53 4).toNatClampNeg = q.length := by rw [z4]; exact nI_clamp (by omega)
        refine kjZ_y rfl rfl 8 _ _ _ _ tz ?_
        refine (And.intro (tz.k (by decide) rfl) (And.intro (tz.k (by decide) rfl) (And.intro (tz.k (by decide) rfl) (And.intro (kdw tz (by decide) rfl vz) (fun tz' => ?_)))))
        have go2 : ∀ y, kTY y → y = (mjIu z.1 55 (z.1 53 4).toNatClampNeg (x7 - x6), z.2) → kjY kPP (kQQ Y) d 96 90 [some (.ref 53), some (.int x1), some (.int x2), some (.int x3), some (.int x4), some (.int x5), some (.int x6), some (.int x7)] [] y (rlP σ (σ.1 g) p e) := by
          intro y t9 ey
          rw [cz] at ey
          have yI : ∀ h x, y.1 h x = if h = 55 ∧ x = q.length then nI (k - from') else if h = 54 ∧ x = q.length then nI from' else u.1 h x := fun h x => by
            rw [ey]; show mjIu z.1 55 _ _ h x = _; rw [mjIu_at, zI, e6, e7, nI_sub3 hfk]
          refine kjZ_y rfl rfl 6 _ _ _ _ t9 ?_
          refine (And.intro (t9.k (by decide) rfl) (And.intro (t9.k (by decide) rfl) (And.intro (Or.inl rfl) (fun t9' => ?_))))
          have go3 : ∀ v, kTY v → v = (mjIu y.1 53 4 (y.1 53 4 + Int32.ofInt 1), y.2) → kjY kPP (kQQ Y) d 96 96 [some (.ref 53), some (.int x1), some (.int x2), some (.int x3), some (.int x4), some (.int x5), some (.int x6), some (.int x7)] [] v (rlP σ (σ.1 g) p e) := by
            intro v t10 ev
            have y4 : y.1 53 4 = nI q.length := by rw [yI, if_neg (fun y => absurd y.1 (by decide)), if_neg (fun y => absurd y.1 (by decide))]; exact u4
            rw [y4, show nI q.length + Int32.ofInt 1 = nI (q.length + 1) from nI_1 _] at ev
            have vI : ∀ h x, v.1 h x = if h = 53 ∧ x = 4 then nI (q.length + 1) else if h = 55 ∧ x = q.length then nI (k - from') else if h = 54 ∧ x = q.length then nI from' else u.1 h x := fun h x => by
              rw [ev]; show mjIu y.1 53 4 _ h x = _; rw [mjIu_at, yI]
            have rv : RWx σ v := ru.tr ⟨by rw [ev, ey, ez], fun h x a b c => by rw [vI, if_neg (fun y => a ⟨y.1, Or.inl y.2⟩), if_neg (fun y => c y.1), if_neg (fun y => b y.1)], fun h x _ => by rw [ev, ey, ez]⟩
            refine s96 v (q ++ [wd (σ.1 g) from' (k - from')]) ?_ ?_ t10 rv ?_ ?_ (fun i w hi => ?_)
            · have r1 : rw1 (wd (σ.1 g) from' (k - from')) = k - from' + 1 := by
                unfold rw1; rw [wd_len, if_neg (by omega)]
              rw [rw_snoc, r1]; omega
            · rw [List.length_append]; show q.length + 1 ≤ 1024; omega
            · rw [vI, if_pos ⟨rfl, rfl⟩, List.length_append]; rfl
            · rw [vI, if_neg (fun y => absurd y.2 (by decide)), if_neg (fun y => absurd y.1 (by decide)), if_neg (fun y => absurd y.1 (by decide))]; exact u5
            · by_cases hki : i < q.length
              · rw [List.getElem?_append_left hki] at hi
                obtain ⟨a, a1, a2, a3⟩ := hw i w hi
                exact ⟨a, by rw [vI, if_neg (fun y => absurd y.1 (by decide)), if_neg (fun y => absurd y.2 (by omega)), if_neg (fun y => absurd y.2 (by omega))]; exact a1, by rw [vI, if_neg (fun y => absurd y.1 (by decide)), if_neg (fun y => absurd y.2 (by omega)), if_neg (fun y => absurd y.2 (by omega))]; exact a2, a3⟩
              · have hk2 := (List.getElem?_eq_some_iff.mp hi).1
                rw [List.length_append] at hk2
                have hk3 : i < q.length + 1 := hk2
                have hki2 : i = q.length := by omega
                subst hki2
                rw [List.getElem?_append_right (Nat.le_refl _), Nat.sub_self] at hi
                have hi : some (wd (σ.1 g) from' (k - from')) = some w := hi
                obtain rfl := Option.some.inj hi
                refine ⟨from', ?_, ?_, ?_, ?_, ?_⟩
                · rw [vI, if_neg (fun y => absurd y.1 (by decide)), if_neg (fun y => absurd y.1 (by decide)), if_pos ⟨rfl, rfl⟩]
                · rw [vI, if_neg (fun y => absurd y.1 (by decide)), if_pos ⟨rfl, rfl⟩, wd_len]
                · rw [wd_len]; omega
                · rw [wd_len]
                · rw [wd_len]; omega
          exact go3 _ t9' rfl
        exact go2 _ tz' rfl
      exact go _ tu' rfl
    have v7 : vp_in x7 M := by rw [e7]; exact vp_in_nI (by omega) (by omega)
    refine kjZ_y rfl rfl 3 _ _ _ _ tu ?_
    refine And.intro (fun c1 => ?_) (fun c1 => ?_)
    · exact s69
    refine kjZ_y rfl rfl 6 _ _ _ _ tu ?_
    refine (And.intro (tu.k (by decide) rfl) (Exists.intro _ (And.intro uf (Or.inl (And.intro (kdk ud) (And.intro (kdv ud v7) (And.intro (fun c2 => ?_) (fun c2 => ?_))))))))
    · exact next u q from' x6 e6 hpf (by omega) hsz hq tu ru u4 u5 hw
    · exact s69
theorem k_readLine (ty : kTY σ) {g M p e : Nat} (fr : σ.2.2.1 53 3 = some g) (kg : σ.2.2.2.1 g = (21, M)) (hM : M ≤ 600000) (he : e ≤ M) (hp : p < e) (h4 : σ.1 53 4 = 0) (x1 x2 : Int32) (e1 : x1 = nI p) (e2 : x2 = nI e) :
    kjY kPP (kQQ Y) (d + 1) 96 0 (mjL0 8 [.ref 53, .int x1, .int x2]) [] σ (rlP σ (σ.1 g) p e) := by
  have kk : (σ.2.2.2.1 g).1 = 21 := by rw [kg]
  have g53 : ¬ g = 53 := fun z => by
    have h9 := ty.k (h := 53) (c := 3) (by decide) rfl
    rw [← z, kg] at h9; exact absurd h9 (show ¬ (21 : Nat) = 3 by decide)
  have e20 : x1 + (Int16.ofInt 2048).toInt32 = nI (p + 2048) := by rw [e1]; exact nI_add p 2048
  refine kjZ_y rfl rfl 5 _ _ _ _ ty ?_
  refine (And.intro (Nat.le_of_ble_eq_true rfl) (And.intro (Nat.le_of_ble_eq_true rfl) (And.intro (Nat.le_of_ble_eq_true rfl) (kjY_mono ty (fun q_ u1 ty1 xu1 h_ => ?_) (k_min ty _ _)))))
  obtain ⟨rfl, rfl⟩ := h_
  intro _ _
  have e3 : (if x1 + (Int16.ofInt 2048).toInt32 < x2 then x1 + (Int16.ofInt 2048).toInt32 else x2) = nI (min e (p + 2048)) := by
    rw [e20, e2]
    by_cases z : p + 2048 < e
    · rw [if_pos ((nlt (by omega) (by omega)).mpr z), Nat.min_eq_right (by omega)]
    · rw [if_neg (fun y => z ((nlt (by omega) (by omega)).mp y)), Nat.min_eq_left (by omega)]
  have hm1 : min e (p + 2048) ≤ e := Nat.min_le_left _ _
  have hm2 : min e (p + 2048) ≤ p + 2048 := Nat.min_le_right _ _
  have hm3 : p < min e (p + 2048) := Nat.lt_min.mpr ⟨hp, by omega⟩
  generalize min e (p + 2048) = L at e3 hm1 hm2 hm3
  generalize (if x1 + (Int16.ofInt 2048).toInt32 < x2 then x1 + (Int16.ofInt 2048).toInt32 else x2) = x3 at e3
  refine kjZ_y rfl rfl 3 _ _ _ _ ty1 ?_
  refine (And.intro (Nat.le_of_ble_eq_true rfl) (And.intro (Nat.le_of_ble_eq_true rfl) ?_))
  refine k_rl_scan (d := d + 1) _ ty1 fr kg hM (by omega) x1 x2 x3 e3 (p := p) (fun q x4 hq1 hq2 e4 => ?_) (L - p) p _ e1 (Nat.le_refl _) (by omega)
  refine kjZ_y rfl rfl 3 _ _ _ _ ty1 ?_
  refine And.intro (fun c => ?_) (fun c => ?_)
  rotate_left
  · refine kjZ_y rfl rfl 5 _ _ _ _ ty1 ?_
    refine And.intro (fun c2 => ?_) (fun c2 => ?_)
    · refine kjZ_y rfl rfl 2 _ _ _ _ ty1 ?_
      refine And.intro rfl (And.intro (Or.inl rfl) ?_)
      exact ⟨RWx.rf, Or.inr ⟨h4, Or.inr rfl⟩⟩
    · refine kjZ_y rfl rfl 3 _ _ _ _ ty1 ?_
      refine And.intro rfl (And.intro (Or.inl rfl) ?_)
      exact ⟨RWx.rf, Or.inr ⟨h4, Or.inl rfl⟩⟩
  have c : ¬ x4 = x3 := c
  rw [e3, e4, nI_eq (by omega) (by omega)] at c
  refine kjZ_y rfl rfl 5 _ _ _ _ ty1 ?_
  refine (And.intro (ty1.k (by decide) rfl) (And.intro (Or.inl rfl) (fun ty1' => ?_)))
  have go : ∀ z, kTY z → z = (mjIu u1.1 53 5 (x4 + Int32.ofInt 1), u1.2) → kjY kPP (kQQ Y) (d + 1) 96 36 [some (.ref 53), some (.int x1), some (.int x2), some (.int x3), some (.int x4), none, none, none] [] z (rlP u1 (u1.1 g) p e) := by
    intro z tz ez
    have zI : ∀ h x, z.1 h x = if h = 53 ∧ x = 5 then x4 + Int32.ofInt 1 else u1.1 h x := fun h x => by
      rw [ez]; show mjIu u1.1 53 5 _ h x = _; rw [mjIu_at]
    have rz : RWx u1 z := ⟨by rw [ez], fun h x a _ _ => by rw [zI, if_neg (fun y => a ⟨y.1, Or.inr y.2⟩)], fun h x _ => by rw [ez]⟩
    have z5 : z.1 53 5 = nI (q + 1) := by rw [zI, if_pos ⟨rfl, rfl⟩, e4]; exact nI_1 q
    have z4 : z.1 53 4 = nI 0 := by rw [zI, if_neg (fun y => absurd y.2 (by decide))]; exact h4
    have zf : z.2.2.1 53 3 = some g := by rw [ez]; exact fr
    have zd : z.2.2.2.1 g = (21, M) := by rw [ez]; exact kg
    have kz : (z.2.2.2.1 g).1 = 21 := by rw [zd]
    have s52 : ∀ (E : Nat) (x5 : Int32), x5 = nI E → p ≤ E → E ≤ q → kjY kPP (kQQ Y) (d + 1) 96 52 [some (.ref 53), some (.int x1), some (.int x2), some (.int x3), some (.int x4), none, none, none] [.int x5] z (rlP u1 (u1.1 g) p e) := by
      intro E x5 e5 hE1 hE2
      refine kjZ_y rfl rfl 5 _ _ _ _ tz ?_
      refine (And.intro (Nat.le_of_ble_eq_true rfl) (And.intro (Nat.le_of_ble_eq_true rfl) (And.intro (Nat.le_of_ble_eq_true rfl) ?_)))
      refine k_rl_l (σ := u1) (d := d + 1) fr kg hM (E := E) (nx := q + 1) (by omega) (by omega) he hE1 (by omega) x1 x2 x3 x4 x5 e5 ty1 (E + 1 - p) p p [] x1 x1 z e1 e1 (by omega) (Nat.le_refl _) (Nat.le_refl _) (Nat.le_refl _) (by decide) tz rz z4 z5 (fun i w hi => by cases hi)
    refine kjZ_y rfl rfl 3 _ _ _ _ tz ?_
    refine And.intro (fun c2 => ?_) (fun c2 => ?_)
    · refine kjZ_y rfl rfl 1 _ _ _ _ tz ?_
      exact s52 q _ e4 hq1 (Nat.le_refl _)
    have c2 : ¬ x4 ≤ x1 := c2
    rw [e1, e4, nle (by omega) (by omega)] at c2
    have em : x4 - Int32.ofInt 1 = nI (q - 1) := by rw [e4]; exact nI_sub3 (show 1 ≤ q by omega)
    have vm : vp_in (x4 - Int32.ofInt 1) M := by rw [em]; exact vp_in_nI (by omega) (by omega)
    refine kjZ_y rfl rfl 8 _ _ _ _ tz ?_
    refine (And.intro (tz.k (by decide) rfl) (Exists.intro _ (And.intro zf (Or.inl (And.intro (kdk zd) (And.intro (kdv zd vm) (And.intro (fun c3 => ?_) (fun c3 => ?_))))))))
    · refine kjZ_y rfl rfl 1 _ _ _ _ tz ?_
      exact s52 q _ e4 hq1 (Nat.le_refl _)
    · refine kjZ_y rfl rfl 4 _ _ _ _ tz ?_
      exact s52 (q - 1) _ em (by omega) (by omega)
  exact go _ ty1' rfl
/-- what a request is, read from a row -/
def rdQ (σ : kS) (h : Nat) (b : Nat → Int32) (p e : Nat) : kK := fun r u => (∃ z, z = ((mjIu (mjIu σ.1 53 4 0) 53 5 (nI p)), σ.2.1, kFu σ.2.2.1 53 3 (some h), σ.2.2.2) ∧ RWx z u) ∧
  ((∃ q nx, r = some (.int 0) ∧ u.1 53 4 = nI q.length ∧ q.length ≤ 1024 ∧ u.1 53 5 = nI nx ∧ p + rw q ≤ nx ∧ p < nx ∧ nx ≤ e ∧ WP b e u q ∧ (b p = 42 → starF b p e = some (some (q, nx)))) ∨
   (u.1 53 4 = 0 ∧ (∃ c, r = some (.int (nI c)) ∧ 1 ≤ c ∧ c ≤ 7) ∧ (p < e → b p = 42 → ∀ z, ¬ starF b p e = some (some z)) ∧ (r = some (.int 1) → p < e → b p = 42 → starF b p e = none)))
theorem k_read (ty : kTY σ) {h M p e : Nat} (kh : σ.2.2.2.1 h = (21, M)) (hM : M ≤ 600000) (he : e ≤ M) (hp : p ≤ e) (x2 x3 : Int32) (e2 : x2 = nI p) (e3 : x3 = nI e) :
    kjY kPP (kQQ Y) (d + 3) 93 0 (mjL0 4 [.ref 53, .ref h, .int x2, .int x3]) [] σ (rdQ σ h (σ.1 h) p e) := by
  have kk : (σ.2.2.2.1 h).1 = 21 := by rw [kh]
  have h53 : ¬ h = 53 := fun z => by
    have h9 := ty.k (h := 53) (c := 3) (by decide) rfl
    rw [← z, kh] at h9; exact absurd h9 (show ¬ (21 : Nat) = 3 by decide)
  refine kjZ_y rfl rfl 9 _ _ _ _ ty ?_
  refine (And.intro (ty.k (by decide) rfl) (And.intro (Or.inl ⟨rfl, by assumption⟩) (fun ty' => (And.intro (ty'.k (by decide) rfl) (And.intro (Or.inl rfl) (fun ty'' => (And.intro (ty''.k (by decide) rfl) (And.intro (Or.inl rfl) (fun ty''' => ?_)))))))))
  have go : ∀ z, kTY z → z = ((mjIu (mjIu σ.1 53 4 0) 53 5 (nI p)), σ.2.1, kFu σ.2.2.1 53 3 (some h), σ.2.2.2) → kjY kPP (kQQ Y) (d + 3) 93 9 [some (.ref 53), some (.ref h), some (.int x2), some (.int x3)] [] z (rdQ σ h (σ.1 h) p e) := by
    intro z tz ez
    have zf : z.2.2.1 53 3 = some h := by
      have e9 : kFu σ.2.2.1 53 3 (some h) 53 3 = some h := by rw [kFu_at]; exact if_pos ⟨rfl, rfl⟩
      rw [ez]; exact e9
    have zd : z.2.2.2.1 h = (21, M) := by rw [ez]; exact kh
    have kz : (z.2.2.2.1 h).1 = 21 := by rw [zd]
    have zi : z.1 h = σ.1 h := by rw [ez]; show mjIu (mjIu σ.1 53 4 0) 53 5 _ h = _; rw [mjIu_n h53, mjIu_n h53]
    have z4 : z.1 53 4 = 0 := by
      have e9 : mjIu (mjIu σ.1 53 4 0) 53 5 (nI p) 53 4 = 0 := by rw [mjIu_q (by decide), mjIu_p]
      rw [ez]; exact e9
    have no : ¬ p < e → kjY kPP (kQQ Y) (d + 3) 93 18 [some (.ref 53), some (.ref h), some (.int x2), some (.int x3)] [] z (rdQ σ h (σ.1 h) p e) := by
      intro hn
      refine kjZ_y rfl rfl 2 _ _ _ _ tz ?_
      refine And.intro rfl (And.intro (Or.inl rfl) ?_)
      exact ⟨⟨z, ez, RWx.rf⟩, Or.inr ⟨z4, ⟨1, rfl, by decide, by decide⟩, fun y => absurd y hn, fun _ y => absurd y hn⟩⟩
    refine kjZ_y rfl rfl 2 _ _ _ _ tz ?_
    refine And.intro (fun c => ?_) (fun c => ?_)
    · exact absurd (show x2 < 0 from c) (by rw [e2]; exact nI_n0 (by omega))
    refine kjZ_y rfl rfl 3 _ _ _ _ tz ?_
    refine And.intro (fun c1 => ?_) (fun c1 => ?_)
    · have c1 : x3 ≤ x2 := c1
      rw [e2, e3, nle (by omega) (by omega)] at c1
      exact no (by omega)
    have c1 : ¬ x3 ≤ x2 := c1
    rw [e2, e3, nle (by omega) (by omega)] at c1
    have hpe : p < e := by omega
    refine kjZ_y rfl rfl 4 _ _ _ _ tz ?_
    refine (Or.inl (And.intro (kdq zd) (And.intro (fun c2 => ?_) (fun c2 => ?_))))
    rotate_left
    · refine absurd (show x3 ≤ nI (z.2.2.2.1 h).2 from ?_) c2
      rw [zd, e3, nle (by omega) (by omega)]; exact he
    have v2 : vp_in x2 M := by rw [e2]; exact vp_in_nI (by omega) (by omega)
    have cc2 : x2.toNatClampNeg = p := by rw [e2]; exact nI_clamp (by omega)
    refine kjZ_y rfl rfl 5 _ _ _ _ tz ?_
    refine (Or.inl (And.intro (kdk zd) (And.intro (kdv zd v2) (And.intro (fun c3 => ?_) (fun c3 => ?_)))))
    · have c3 : ¬ z.1 h x2.toNatClampNeg = (Int8.ofInt 42).toInt32 := c3
      rw [cc2, zi] at c3
      refine kjZ_y rfl rfl 4 _ _ _ _ tz ?_
      refine (And.intro (Nat.le_of_ble_eq_true rfl) (And.intro (Or.inl ⟨(Nat.le_of_ble_eq_true rfl), (tz.k (by decide) rfl)⟩) (And.intro (Nat.le_of_ble_eq_true rfl) (And.intro (Nat.le_of_ble_eq_true rfl) (kjY_mono tz (fun q_ u1 ty1 xu1 h_ => ?_) (k_readLine (d := d + 1) tz zf zd hM he hpe z4 _ _ e2 e3))))))
      obtain ⟨r1, q⟩ := h_
      intro _ _
      rw [zi] at q
      have c3' : ¬ σ.1 h p = 42 := fun y => c3 (y.trans (by decide))
      rcases q with ⟨q, nx, rfl, a1, a2, a3, a4, a5, a6, a7⟩ | ⟨a1, rfl | rfl⟩
      · refine kjZ_y rfl rfl 1 _ _ _ _ ty1 ?_
        refine And.intro rfl (And.intro (Or.inl rfl) ?_)
        exact ⟨⟨z, ez, r1⟩, Or.inl ⟨q, nx, rfl, a1, a2, a3, by omega, a5, a6, a7, fun y => absurd y c3'⟩⟩
      · refine kjZ_y rfl rfl 1 _ _ _ _ ty1 ?_
        refine And.intro rfl (And.intro (Or.inl rfl) ?_)
        exact ⟨⟨z, ez, r1⟩, Or.inr ⟨a1, ⟨1, rfl, by decide, by decide⟩, fun _ y => absurd y c3', fun _ _ y => absurd y c3'⟩⟩
      · refine kjZ_y rfl rfl 1 _ _ _ _ ty1 ?_
        refine And.intro rfl (And.intro (Or.inl rfl) ?_)
        exact ⟨⟨z, ez, r1⟩, Or.inr ⟨a1, ⟨6, rfl, by decide, by decide⟩, fun _ y => absurd y c3', fun _ _ y => absurd y c3'⟩⟩
    · refine kjZ_y rfl rfl 4 _ _ _ _ tz ?_
      refine (And.intro (Nat.le_of_ble_eq_true rfl) (And.intro (Or.inl ⟨(Nat.le_of_ble_eq_true rfl), (tz.k (by decide) rfl)⟩) (And.intro (Nat.le_of_ble_eq_true rfl) (And.intro (Nat.le_of_ble_eq_true rfl) (kjY_mono tz (fun q_ u1 ty1 xu1 h_ => ?_) (k_readWords (d := d) tz zf zd hM he hpe _ _ e2 e3))))))
      obtain ⟨r1, q⟩ := h_
      intro _ _
      rw [zi] at q
      rcases q with ⟨q, nx, hS, rfl, a1, a2, a3, a4, a5⟩ | ⟨a1, ⟨hS, rfl⟩ | ⟨hS, c9, rfl, h91, h92⟩⟩
      · have hsz := star_sz hS
        have hrw := (star_rw hS).1
        have hrw : p + rw q ≤ nx := hrw
        refine kjZ_y rfl rfl 2 _ _ _ _ ty1 ?_
        refine And.intro rfl (And.intro (Or.inl rfl) ?_)
        exact ⟨⟨z, ez, r1⟩, Or.inl ⟨q, nx, rfl, a1, a2, a3, by omega, by omega, hsz.2, a5, fun _ => hS⟩⟩
      · refine kjZ_y rfl rfl 2 _ _ _ _ ty1 ?_
        refine And.intro rfl (And.intro (Or.inl rfl) ?_)
        exact ⟨⟨z, ez, r1⟩, Or.inr ⟨a1.trans z4, ⟨1, rfl, by decide, by decide⟩, fun _ _ y hy => (by rw [hS] at hy; cases hy), fun _ _ _ => hS⟩⟩
      · refine kjZ_y rfl rfl 2 _ _ _ _ ty1 ?_
        refine And.intro rfl (And.intro (Or.inl rfl) ?_)
        refine ⟨⟨z, ez, r1⟩, Or.inr ⟨a1.trans z4, ⟨c9, rfl, by omega, by omega⟩, fun _ _ y hy => (by rw [hS] at hy; cases hy), fun hr => ?_⟩⟩
        have hr : nI c9 = nI 1 := Value.int.inj (Option.some.inj hr)
        rw [nI_eq (by omega) (by decide)] at hr; omega
  exact go _ ty''' (by rw [e2]; rfl)
end KREAD2
