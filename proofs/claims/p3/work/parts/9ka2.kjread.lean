/-! Commands and their functions: those that read. -/
set_option maxRecDepth 20000
section KJREAD
variable {Y : Nat → MethodName × ByteArray} {d : Nat} {σ u : kS} {B ws nmm : List (List Int32)} {ks : List KC}
theorem cmP.n {j : Nat} {e : Eff} : ∀ r u, cmP B σ ws nmm ks j e r u → r = none := fun _ _ h => h.1
/-- BITCOUNT -/
theorem kc_1 (ty : kTY σ) (h : JC B σ ws nmm ks 1) : kjY kPP (kQQ Y) (d + 10) 162 0 (mjL0 2 [.ref 67, .ref (1000000 + 1)]) [] σ (cmP B σ ws nmm ks 1 (rnC (σ.1 59 17) (σ.2.1 59 16) ks 1 ws)) :=
  kr_1 (d := d + 1) ty cmP.n (cm_n (i := 21) ty h rfl (by decide) (fun _ => rfl) (kx_bitCount (d := d + 2) ty h.1 h.2.1 h.hB h.hj (h.gw_ (a := 1) (k := 1) rfl (by decide) (by decide)).2 (fun q => by
    have z := tk_od (j := 1) (n := ws.length - 1) (by have := h.n1; omega) (by decide) h.tk
    omega)))
/-- DBSIZE -/
theorem kc_2 (ty : kTY σ) (h : JC B σ ws nmm ks 2) : kjY kPP (kQQ Y) (d + 10) 150 0 (mjL0 2 [.ref 59, .ref (1000000 + 2)]) [] σ (cmP B σ ws nmm ks 2 (rnC (σ.1 59 17) (σ.2.1 59 16) ks 2 ws)) :=
  cm_n (i := 28) ty h rfl (by decide) (fun _ => rfl) (kr_dbsize (d := d + 1) ty h.1 h.2.1)
/-- EXISTS -/
theorem kc_9 (ty : kTY σ) (h : JC B σ ws nmm ks 9) : kjY kPP (kQQ Y) (d + 10) 150 0 (mjL0 2 [.ref 59, .ref (1000000 + 9)]) [] σ (cmP B σ ws nmm ks 9 (rnC (σ.1 59 17) (σ.2.1 59 16) ks 9 ws)) :=
  kr_9 (d := d + 1) ty cmP.n (cm_n (i := 23) ty h rfl (by decide) (fun _ => rfl) (kx_exists (d := d + 3) ty h.1 h.2.1 h.hB h.n1.1))
/-- GETBIT -/
theorem kc_14 (ty : kTY σ) (h : JC B σ ws nmm ks 14) : kjY kPP (kQQ Y) (d + 10) 162 0 (mjL0 2 [.ref 67, .ref (1000000 + 14)]) [] σ (cmP B σ ws nmm ks 14 (rnC (σ.1 59 17) (σ.2.1 59 16) ks 14 ws)) :=
  kr_14 (d := d + 1) ty cmP.n (cm_n (i := 20) ty h rfl (by decide) (fun _ => rfl) (kx_getBit (d := d + 2) ty h.1 h.2.1 h.hB h.hj (h.gw_ (a := 2) (k := 1) rfl (by decide) (by decide)).2 (h.gw_ (a := 2) (k := 2) rfl (by decide) (by decide)).2))
/-- GETRANGE -/
theorem kc_16 (ty : kTY σ) (h : JC B σ ws nmm ks 16) : kjY kPP (kQQ Y) (d + 10) 162 0 (mjL0 2 [.ref 67, .ref (1000000 + 16)]) [] σ (cmP B σ ws nmm ks 16 (rnC (σ.1 59 17) (σ.2.1 59 16) ks 16 ws)) :=
  kr_16 (d := d + 1) ty cmP.n (cm_n (i := 13) ty h rfl (by decide) (fun _ => rfl) (kx_getRange (d := d + 2) ty h.1 h.2.1 h.hB h.hj (h.gw_ (a := 3) (k := 1) rfl (by decide) (by decide)).2 (h.gw_ (a := 3) (k := 2) rfl (by decide) (by decide)).2 (h.gw_ (a := 3) (k := 3) rfl (by decide) (by decide)).2))
/-- HEXISTS -/
theorem kc_19 (ty : kTY σ) (h : JC B σ ws nmm ks 19) : kjY kPP (kQQ Y) (d + 10) 202 0 (mjL0 2 [.ref 71, .ref (1000000 + 19)]) [] σ (cmP B σ ws nmm ks 19 (rnC (σ.1 59 17) (σ.2.1 59 16) ks 19 ws)) :=
  kr_19 (d := d + 1) ty cmP.n (cm_n (i := 57) ty h rfl (by decide) (fun _ => rfl) (kx_mthere (d := d + 2) ty h.1 h.2.1 h.hB h.hj (h.gw_ (a := 2) (k := 1) rfl (by decide) (by decide)).2 (h.gw_ (a := 2) (k := 2) rfl (by decide) (by decide)).2 h.s23 (s := 2) (Or.inl rfl) _ rfl))
/-- HGET -/
theorem kc_20 (ty : kTY σ) (h : JC B σ ws nmm ks 20) : kjY kPP (kQQ Y) (d + 10) 202 0 (mjL0 2 [.ref 71, .ref (1000000 + 20)]) [] σ (cmP B σ ws nmm ks 20 (rnC (σ.1 59 17) (σ.2.1 59 16) ks 20 ws)) :=
  kr_20 (d := d + 1) ty cmP.n (cm_n (i := 54) ty h rfl (by decide) (fun _ => rfl) (kx_hget (d := d + 1) ty h.1 h.2.1 h.hB h.hj (h.gw_ (a := 2) (k := 1) rfl (by decide) (by decide)).2 (h.gw_ (a := 2) (k := 2) rfl (by decide) (by decide)).2 h.s2))
/-- HGETALL -/
theorem kc_21 (ty : kTY σ) (h : JC B σ ws nmm ks 21) : kjY kPP (kQQ Y) (d + 10) 202 0 (mjL0 2 [.ref 71, .ref (1000000 + 21)]) [] σ (cmP B σ ws nmm ks 21 (rnC (σ.1 59 17) (σ.2.1 59 16) ks 21 ws)) :=
  kr_21 (d := d + 1) ty cmP.n (cm_n (i := 62) ty h rfl (by decide) (fun _ => rfl) (kx_mall (d := d + 2) ty h.1 h.2.1 h.hB h.hj (h.gw_ (a := 1) (k := 1) rfl (by decide) (by decide)).2 (s := 2) (Or.inl rfl) _ _ _ rfl))
/-- HKEYS -/
theorem kc_23 (ty : kTY σ) (h : JC B σ ws nmm ks 23) : kjY kPP (kQQ Y) (d + 10) 202 0 (mjL0 2 [.ref 71, .ref (1000000 + 23)]) [] σ (cmP B σ ws nmm ks 23 (rnC (σ.1 59 17) (σ.2.1 59 16) ks 23 ws)) :=
  kr_23 (d := d + 1) ty cmP.n (cm_n (i := 60) ty h rfl (by decide) (fun _ => rfl) (kx_mall (d := d + 2) ty h.1 h.2.1 h.hB h.hj (h.gw_ (a := 1) (k := 1) rfl (by decide) (by decide)).2 (s := 2) (Or.inl rfl) _ _ _ rfl))
/-- HLEN -/
theorem kc_24 (ty : kTY σ) (h : JC B σ ws nmm ks 24) : kjY kPP (kQQ Y) (d + 10) 202 0 (mjL0 2 [.ref 71, .ref (1000000 + 24)]) [] σ (cmP B σ ws nmm ks 24 (rnC (σ.1 59 17) (σ.2.1 59 16) ks 24 ws)) :=
  kr_24 (d := d + 1) ty cmP.n (cm_n (i := 58) ty h rfl (by decide) (fun _ => rfl) (kx_msize (d := d + 2) ty h.1 h.2.1 h.hB h.hj (h.gw_ (a := 1) (k := 1) rfl (by decide) (by decide)).2 (s := 2) (by decide) _ rfl))
/-- HMGET -/
theorem kc_25 (ty : kTY σ) (h : JC B σ ws nmm ks 25) : kjY kPP (kQQ Y) (d + 10) 202 0 (mjL0 2 [.ref 71, .ref (1000000 + 25)]) [] σ (cmP B σ ws nmm ks 25 (rnC (σ.1 59 17) (σ.2.1 59 16) ks 25 ws)) :=
  kr_25 (d := d + 1) ty cmP.n (cm_n (i := 55) ty h rfl (by decide) (fun _ => rfl) (kx_hmget (d := d + 1) ty h.1 h.2.1 h.hB h.hj (h.gw_ (a := 2) (k := 1) rfl (by decide) (by decide)).2 (h.gw_ (a := 2) (k := 1) rfl (by decide) (by decide)).1 h.s2))
/-- HSTRLEN -/
theorem kc_28 (ty : kTY σ) (h : JC B σ ws nmm ks 28) : kjY kPP (kQQ Y) (d + 10) 202 0 (mjL0 2 [.ref 71, .ref (1000000 + 28)]) [] σ (cmP B σ ws nmm ks 28 (rnC (σ.1 59 17) (σ.2.1 59 16) ks 28 ws)) :=
  kr_28 (d := d + 1) ty cmP.n (cm_n (i := 59) ty h rfl (by decide) (fun _ => rfl) (kx_hstrlen (d := d + 1) ty h.1 h.2.1 h.hB h.hj (h.gw_ (a := 2) (k := 1) rfl (by decide) (by decide)).2 (h.gw_ (a := 2) (k := 2) rfl (by decide) (by decide)).2 h.s2))
/-- HVALS -/
theorem kc_29 (ty : kTY σ) (h : JC B σ ws nmm ks 29) : kjY kPP (kQQ Y) (d + 10) 202 0 (mjL0 2 [.ref 71, .ref (1000000 + 29)]) [] σ (cmP B σ ws nmm ks 29 (rnC (σ.1 59 17) (σ.2.1 59 16) ks 29 ws)) :=
  kr_29 (d := d + 1) ty cmP.n (cm_n (i := 61) ty h rfl (by decide) (fun _ => rfl) (kx_mall (d := d + 2) ty h.1 h.2.1 h.hB h.hj (h.gw_ (a := 1) (k := 1) rfl (by decide) (by decide)).2 (s := 2) (Or.inl rfl) _ _ _ rfl))
/-- KEYS -/
theorem kc_32 (ty : kTY σ) (h : JC B σ ws nmm ks 32) : kjY kPP (kQQ Y) (d + 10) 150 0 (mjL0 2 [.ref 59, .ref (1000000 + 32)]) [] σ (cmP B σ ws nmm ks 32 (rnC (σ.1 59 17) (σ.2.1 59 16) ks 32 ws)) :=
  kr_32 (d := d + 1) ty cmP.n (cm_n (i := 27) ty h rfl (by decide) (fun _ => rfl) (kx_keysAll (d := d + 3) ty h.1 h.2.1 (h.gw_ (a := 1) (k := 1) rfl (by decide) (by decide)).2))
/-- LINDEX -/
theorem kc_33 (ty : kTY σ) (h : JC B σ ws nmm ks 33) : kjY kPP (kQQ Y) (d + 10) 188 0 (mjL0 2 [.ref 70, .ref (1000000 + 33)]) [] σ (cmP B σ ws nmm ks 33 (rnC (σ.1 59 17) (σ.2.1 59 16) ks 33 ws)) :=
  kr_33 (d := d + 1) ty cmP.n (cm_n (i := 45) ty h rfl (by decide) (fun _ => rfl) (kx_lindex (d := d + 2) ty h.1 h.2.1 h.hB h.hj (h.gw_ (a := 2) (k := 1) rfl (by decide) (by decide)).2 (h.gw_ (a := 2) (k := 2) rfl (by decide) (by decide)).2))
/-- LLEN -/
theorem kc_35 (ty : kTY σ) (h : JC B σ ws nmm ks 35) : kjY kPP (kQQ Y) (d + 10) 188 0 (mjL0 2 [.ref 70, .ref (1000000 + 35)]) [] σ (cmP B σ ws nmm ks 35 (rnC (σ.1 59 17) (σ.2.1 59 16) ks 35 ws)) :=
  kr_35 (d := d + 1) ty cmP.n (cm_n (i := 43) ty h rfl (by decide) (fun _ => rfl) (kx_llen (d := d + 2) ty h.1 h.2.1 h.hB h.hj (h.gw_ (a := 1) (k := 1) rfl (by decide) (by decide)).2))
/-- LRANGE -/
theorem kc_40 (ty : kTY σ) (h : JC B σ ws nmm ks 40) : kjY kPP (kQQ Y) (d + 10) 188 0 (mjL0 2 [.ref 70, .ref (1000000 + 40)]) [] σ (cmP B σ ws nmm ks 40 (rnC (σ.1 59 17) (σ.2.1 59 16) ks 40 ws)) :=
  kr_40 (d := d + 1) ty cmP.n (cm_n (i := 44) ty h rfl (by decide) (fun _ => rfl) (kx_lrange (d := d + 2) ty h.1 h.2.1 h.hB h.hj (h.gw_ (a := 3) (k := 1) rfl (by decide) (by decide)).2 (h.gw_ (a := 3) (k := 2) rfl (by decide) (by decide)).2 (h.gw_ (a := 3) (k := 3) rfl (by decide) (by decide)).2))
/-- MGET -/
theorem kc_44 (ty : kTY σ) (h : JC B σ ws nmm ks 44) : kjY kPP (kQQ Y) (d + 10) 162 0 (mjL0 2 [.ref 67, .ref (1000000 + 44)]) [] σ (cmP B σ ws nmm ks 44 (rnC (σ.1 59 17) (σ.2.1 59 16) ks 44 ws)) :=
  kr_44 (d := d + 1) ty cmP.n (cm_n (i := 8) ty h rfl (by decide) (fun _ => rfl) (kx_mget (d := d + 2) ty h.1 h.2.1 h.hB h.n1.1))
/-- PTTL -/
theorem kc_53 (ty : kTY σ) (h : JC B σ ws nmm ks 53) : kjY kPP (kQQ Y) (d + 10) 150 0 (mjL0 2 [.ref 59, .ref (1000000 + 53)]) [] σ (cmP B σ ws nmm ks 53 (rnC (σ.1 59 17) (σ.2.1 59 16) ks 53 ws)) :=
  kr_53 (d := d + 1) ty cmP.n (cm_n (i := 36) ty h rfl (by decide) (fun _ => rfl) (kx_ttl (d := d + 3) ty h.1 h.2.1 h.hB (h.gw_ (a := 1) (k := 1) rfl (by decide) (by decide)).2 _))
/-- SCARD -/
theorem kc_63 (ty : kTY σ) (h : JC B σ ws nmm ks 63) : kjY kPP (kQQ Y) (d + 10) 203 0 (mjL0 2 [.ref 71, .ref (1000000 + 63)]) [] σ (cmP B σ ws nmm ks 63 (rnC (σ.1 59 17) (σ.2.1 59 16) ks 63 ws)) :=
  kr_63 (d := d + 1) ty cmP.n (cm_n (i := 68) ty h rfl (by decide) (fun _ => rfl) (kx_msize (d := d + 2) ty h.1 h.2.1 h.hB h.hj (h.gw_ (a := 1) (k := 1) rfl (by decide) (by decide)).2 (s := 3) (by decide) _ rfl))
/-- SISMEMBER -/
theorem kc_73 (ty : kTY σ) (h : JC B σ ws nmm ks 73) : kjY kPP (kQQ Y) (d + 10) 203 0 (mjL0 2 [.ref 71, .ref (1000000 + 73)]) [] σ (cmP B σ ws nmm ks 73 (rnC (σ.1 59 17) (σ.2.1 59 16) ks 73 ws)) :=
  kr_73 (d := d + 1) ty cmP.n (cm_n (i := 66) ty h rfl (by decide) (fun _ => rfl) (kx_mthere (d := d + 2) ty h.1 h.2.1 h.hB h.hj (h.gw_ (a := 2) (k := 1) rfl (by decide) (by decide)).2 (h.gw_ (a := 2) (k := 2) rfl (by decide) (by decide)).2 h.s23 (s := 3) (Or.inr rfl) _ rfl))
/-- SMEMBERS -/
theorem kc_74 (ty : kTY σ) (h : JC B σ ws nmm ks 74) : kjY kPP (kQQ Y) (d + 10) 203 0 (mjL0 2 [.ref 71, .ref (1000000 + 74)]) [] σ (cmP B σ ws nmm ks 74 (rnC (σ.1 59 17) (σ.2.1 59 16) ks 74 ws)) :=
  kr_74 (d := d + 1) ty cmP.n (cm_n (i := 69) ty h rfl (by decide) (fun _ => rfl) (kx_mall (d := d + 2) ty h.1 h.2.1 h.hB h.hj (h.gw_ (a := 1) (k := 1) rfl (by decide) (by decide)).2 (s := 3) (Or.inr rfl) _ _ _ rfl))
/-- SMISMEMBER -/
theorem kc_75 (ty : kTY σ) (h : JC B σ ws nmm ks 75) : kjY kPP (kQQ Y) (d + 10) 203 0 (mjL0 2 [.ref 71, .ref (1000000 + 75)]) [] σ (cmP B σ ws nmm ks 75 (rnC (σ.1 59 17) (σ.2.1 59 16) ks 75 ws)) :=
  kr_75 (d := d + 1) ty cmP.n (cm_n (i := 67) ty h rfl (by decide) (fun _ => rfl) (kx_smis (d := d + 1) ty h.1 h.2.1 h.hB h.hj (h.gw_ (a := 2) (k := 1) rfl (by decide) (by decide)).2 (h.gw_ (a := 2) (k := 1) rfl (by decide) (by decide)).1 h.s3))
/-- TTL -/
theorem kc_84 (ty : kTY σ) (h : JC B σ ws nmm ks 84) : kjY kPP (kQQ Y) (d + 10) 150 0 (mjL0 2 [.ref 59, .ref (1000000 + 84)]) [] σ (cmP B σ ws nmm ks 84 (rnC (σ.1 59 17) (σ.2.1 59 16) ks 84 ws)) :=
  kr_84 (d := d + 1) ty cmP.n (cm_n (i := 35) ty h rfl (by decide) (fun _ => rfl) (kx_ttl (d := d + 3) ty h.1 h.2.1 h.hB (h.gw_ (a := 1) (k := 1) rfl (by decide) (by decide)).2 _))
/-- TYPE -/
theorem kc_85 (ty : kTY σ) (h : JC B σ ws nmm ks 85) : kjY kPP (kQQ Y) (d + 10) 150 0 (mjL0 2 [.ref 59, .ref (1000000 + 85)]) [] σ (cmP B σ ws nmm ks 85 (rnC (σ.1 59 17) (σ.2.1 59 16) ks 85 ws)) :=
  cm_n (i := 24) ty h rfl (by decide) (fun _ => rfl) (kr_type (d := d + 1) ty h.1 h.2.1 h.hB (h.gw_ (a := 1) (k := 1) rfl (by decide) (by decide)).2)
/-- ZCARD -/
theorem kc_90 (ty : kTY σ) (h : JC B σ ws nmm ks 90) : kjY kPP (kQQ Y) (d + 10) 229 0 (mjL0 2 [.ref 75, .ref (1000000 + 90)]) [] σ (cmP B σ ws nmm ks 90 (rnC (σ.1 59 17) (σ.2.1 59 16) ks 90 ws)) :=
  kr_90 (d := d + 1) ty cmP.n (cm_n (i := 82) ty h rfl (by decide) (fun _ => rfl) (kx_zcard (d := d + 2) ty h.1 h.2.1 h.hB h.hj (h.gw_ (a := 1) (k := 1) rfl (by decide) (by decide)).2))
/-- ZCOUNT -/
theorem kc_91 (ty : kTY σ) (h : JC B σ ws nmm ks 91) : kjY kPP (kQQ Y) (d + 10) 229 0 (mjL0 2 [.ref 75, .ref (1000000 + 91)]) [] σ (cmP B σ ws nmm ks 91 (rnC (σ.1 59 17) (σ.2.1 59 16) ks 91 ws)) :=
  kr_91 (d := d + 1) ty cmP.n (cm_n (i := 89) ty h rfl (by decide) (fun _ => rfl) (kx_zcount (d := d) ty h.1 h.2.1 h.hB h.hj (h.gw_ (a := 3) (k := 1) rfl (by decide) (by decide)).2 (h.gw_ (a := 3) (k := 2) rfl (by decide) (by decide)).2 (h.gw_ (a := 3) (k := 3) rfl (by decide) (by decide)).2 h.s4))
/-- ZRANGE -/
theorem kc_95 (ty : kTY σ) (h : JC B σ ws nmm ks 95) : kjY kPP (kQQ Y) (d + 10) 229 0 (mjL0 2 [.ref 75, .ref (1000000 + 95)]) [] σ (cmP B σ ws nmm ks 95 (rnC (σ.1 59 17) (σ.2.1 59 16) ks 95 ws)) :=
  kr_95 (d := d + 1) ty cmP.n (cm_n (i := 85) ty h rfl (by decide) (fun _ => rfl) (kx_zrange (d := d + 1) ty h.1 h.2.1 h.hB h.hj (h.gw_ (a := 3) (k := 1) rfl (by decide) (by decide)).2 (h.gw_ (a := 3) (k := 2) rfl (by decide) (by decide)).2 (h.gw_ (a := 3) (k := 3) rfl (by decide) (by decide)).2 _))
/-- ZRANGEBYSCORE -/
theorem kc_96 (ty : kTY σ) (h : JC B σ ws nmm ks 96) : kjY kPP (kQQ Y) (d + 10) 229 0 (mjL0 2 [.ref 75, .ref (1000000 + 96)]) [] σ (cmP B σ ws nmm ks 96 (rnC (σ.1 59 17) (σ.2.1 59 16) ks 96 ws)) :=
  kr_96 (d := d + 1) ty cmP.n (cm_n (i := 87) ty h rfl (by decide) (fun _ => rfl) (kx_zbyscore (d := d) ty h.1 h.2.1 h.hB h.hj (h.gw_ (a := 3) (k := 1) rfl (by decide) (by decide)).2 (h.gw_ (a := 3) (k := 2) rfl (by decide) (by decide)).2 (h.gw_ (a := 3) (k := 3) rfl (by decide) (by decide)).2 h.s4 _))
/-- ZRANK -/
theorem kc_97 (ty : kTY σ) (h : JC B σ ws nmm ks 97) : kjY kPP (kQQ Y) (d + 10) 229 0 (mjL0 2 [.ref 75, .ref (1000000 + 97)]) [] σ (cmP B σ ws nmm ks 97 (rnC (σ.1 59 17) (σ.2.1 59 16) ks 97 ws)) :=
  kr_97 (d := d + 1) ty cmP.n (cm_n (i := 83) ty h rfl (by decide) (fun _ => rfl) (kx_zrank (d := d + 2) ty h.1 h.2.1 h.hB h.hj (h.gw_ (a := 2) (k := 1) rfl (by decide) (by decide)).2 (h.gw_ (a := 2) (k := 2) rfl (by decide) (by decide)).2 h.s4 _))
/-- ZREVRANGE -/
theorem kc_101 (ty : kTY σ) (h : JC B σ ws nmm ks 101) : kjY kPP (kQQ Y) (d + 10) 229 0 (mjL0 2 [.ref 75, .ref (1000000 + 101)]) [] σ (cmP B σ ws nmm ks 101 (rnC (σ.1 59 17) (σ.2.1 59 16) ks 101 ws)) :=
  kr_101 (d := d + 1) ty cmP.n (cm_n (i := 86) ty h rfl (by decide) (fun _ => rfl) (kx_zrange (d := d + 1) ty h.1 h.2.1 h.hB h.hj (h.gw_ (a := 3) (k := 1) rfl (by decide) (by decide)).2 (h.gw_ (a := 3) (k := 2) rfl (by decide) (by decide)).2 (h.gw_ (a := 3) (k := 3) rfl (by decide) (by decide)).2 _))
/-- ZREVRANGEBYSCORE -/
theorem kc_102 (ty : kTY σ) (h : JC B σ ws nmm ks 102) : kjY kPP (kQQ Y) (d + 10) 229 0 (mjL0 2 [.ref 75, .ref (1000000 + 102)]) [] σ (cmP B σ ws nmm ks 102 (rnC (σ.1 59 17) (σ.2.1 59 16) ks 102 ws)) :=
  kr_102 (d := d + 1) ty cmP.n (cm_n (i := 88) ty h rfl (by decide) (fun _ => rfl) (kx_zbyscore (d := d) ty h.1 h.2.1 h.hB h.hj (h.gw_ (a := 3) (k := 1) rfl (by decide) (by decide)).2 (h.gw_ (a := 3) (k := 2) rfl (by decide) (by decide)).2 (h.gw_ (a := 3) (k := 3) rfl (by decide) (by decide)).2 h.s4 _))
/-- ZREVRANK -/
theorem kc_103 (ty : kTY σ) (h : JC B σ ws nmm ks 103) : kjY kPP (kQQ Y) (d + 10) 229 0 (mjL0 2 [.ref 75, .ref (1000000 + 103)]) [] σ (cmP B σ ws nmm ks 103 (rnC (σ.1 59 17) (σ.2.1 59 16) ks 103 ws)) :=
  kr_103 (d := d + 1) ty cmP.n (cm_n (i := 84) ty h rfl (by decide) (fun _ => rfl) (kx_zrank (d := d + 2) ty h.1 h.2.1 h.hB h.hj (h.gw_ (a := 2) (k := 1) rfl (by decide) (by decide)).2 (h.gw_ (a := 2) (k := 2) rfl (by decide) (by decide)).2 h.s4 _))
/-- ZSCORE -/
theorem kc_104 (ty : kTY σ) (h : JC B σ ws nmm ks 104) : kjY kPP (kQQ Y) (d + 10) 229 0 (mjL0 2 [.ref 75, .ref (1000000 + 104)]) [] σ (cmP B σ ws nmm ks 104 (rnC (σ.1 59 17) (σ.2.1 59 16) ks 104 ws)) :=
  kr_104 (d := d + 1) ty cmP.n (cm_n (i := 80) ty h rfl (by decide) (fun _ => rfl) (kx_zscore (d := d + 2) ty h.1 h.2.1 h.hB h.hj (h.gw_ (a := 2) (k := 1) rfl (by decide) (by decide)).2 (h.gw_ (a := 2) (k := 2) rfl (by decide) (by decide)).2))
end KJREAD
