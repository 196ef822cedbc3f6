/-! bits of ints counted, as class and model do it -/
theorem tb_of {n : Nat} (h : n < 2 ^ 32) (i : Nat) : bt (nI n) i = n.testBit i := by
  show (nI n).toBitVec.toNat.testBit i = _
  rw [pk_tn h]
theorem nI_ex (x : Int32) : ∃ n, n < 2 ^ 32 ∧ x = nI n := ⟨x.toBitVec.toNat, x.toBitVec.isLt, Int32.toBitVec_inj.mp (by show _ = BitVec.ofNat 32 _; simp)⟩
theorem n_and (a b : Nat) : nI a &&& nI b = nI (a &&& b) := by
  apply Int32.toBitVec_inj.mp
  rw [Int32.toBitVec_and]
  show BitVec.ofNat 32 a &&& BitVec.ofNat 32 b = BitVec.ofNat 32 (a &&& b)
  apply BitVec.eq_of_getLsbD_eq
  intro i hi
  simp [hi]
theorem n_ush {n : Nat} (h : n < 2 ^ 32) (k : Nat) (s : Int32) (hs : ((s.toUInt32 &&& Int32.toUInt32 31).toBitVec % 32).toNat = k) : ush (nI n) s = nI (n / 2 ^ k) := by
  unfold ush
  exact pk_ushrN h s k hs
theorem and_cat {k a b : Nat} (ha : a < 2 ^ k) (hb : b < 2 ^ k) (m q : Nat) : (2 ^ k * m + a) &&& (2 ^ k * q + b) = 2 ^ k * (m &&& q) + (a &&& b) := by
  apply Nat.eq_of_testBit_eq
  intro i
  have hc : (a &&& b) < 2 ^ k := Nat.lt_of_le_of_lt Nat.and_le_left ha
  rw [Nat.testBit_and, Nat.testBit_two_pow_mul_add m ha, Nat.testBit_two_pow_mul_add q hb, Nat.testBit_two_pow_mul_add _ hc]
  split
  · rw [Nat.testBit_and]
  · rw [Nat.testBit_and]
theorem and4 {a b : Nat} (ha : a < 16) (hb : b < 16) (m q : Nat) : (16 * m + a) &&& (16 * q + b) = 16 * (m &&& q) + (a &&& b) := and_cat (k := 4) ha hb m q
def mk5 : Nat → Nat
  | 0 => 0
  | k + 1 => 16 * mk5 k + 5
def mk3 : Nat → Nat
  | 0 => 0
  | k + 1 => 16 * mk3 k + 3
def w1 (n M : Nat) : Nat := n - ((n / 2) &&& M)
def w2 (n M : Nat) : Nat := (n &&& M) + ((n / 4) &&& M)
theorem w1_st {d m M : Nat} (hd : d < 16) : w1 (16 * m + d) (16 * M + 5) = 16 * w1 m M + w1 d 5 := by
  have e : (16 * m + d) / 2 = 16 * (m / 2) + (d / 2 + 8 * (m % 2)) := by omega
  have h1 : (d / 2 + 8 * (m % 2)) < 16 := by omega
  have h2 : (d / 2 + 8 * (m % 2)) &&& 5 = (d / 2) &&& 5 := by
    have : ∀ d : Fin 16, ∀ r : Fin 2, (d.val / 2 + 8 * r.val) &&& 5 = (d.val / 2) &&& 5 := by decide +kernel
    exact this ⟨d, hd⟩ ⟨m % 2, Nat.mod_lt _ (by decide)⟩
  unfold w1
  rw [e, and4 h1 (by decide), h2]
  have h3 : (m / 2) &&& M ≤ m / 2 := Nat.and_le_left
  have h4 : (d / 2) &&& 5 ≤ d / 2 := Nat.and_le_left
  omega
theorem w2_st {d m M : Nat} (hd : d < 16) : w2 (16 * m + d) (16 * M + 3) = 16 * w2 m M + w2 d 3 := by
  have e : (16 * m + d) / 4 = 16 * (m / 4) + (d / 4 + 4 * (m % 4)) := by omega
  have h1 : (d / 4 + 4 * (m % 4)) < 16 := by omega
  have h2 : (d / 4 + 4 * (m % 4)) &&& 3 = (d / 4) &&& 3 := by
    have : ∀ d : Fin 16, ∀ r : Fin 4, (d.val / 4 + 4 * r.val) &&& 3 = (d.val / 4) &&& 3 := by decide +kernel
    exact this ⟨d, hd⟩ ⟨m % 4, Nat.mod_lt _ (by decide)⟩
  unfold w2
  rw [e, and4 hd (by decide), and4 h1 (by decide), h2]
  omega
/-- ones of four bits -/
def c4 (d : Nat) : Nat := w2 (w1 d 5) 3
def sN : Nat → Nat → Nat
  | 0, _ => 0
  | k + 1, n => 16 * sN k (n / 16) + c4 (n % 16)
theorem c4_ct : ∀ d : Fin 16, c4 d.val = fb_ct (fun i => d.val.testBit i) 4 ∧ c4 d.val ≤ 4 ∧ w1 d.val 5 < 16 := by decide +kernel
theorem w_sN : ∀ (k n : Nat), n < 16 ^ k → w2 (w1 n (mk5 k)) (mk3 k) = sN k n
  | 0, n, h => by
    have : n = 0 := by simpa using h
    subst this
    rfl
  | k + 1, n, h => by
    have hn : n = 16 * (n / 16) + n % 16 := by omega
    have hd : n % 16 < 16 := Nat.mod_lt _ (by decide)
    have hlt : n / 16 < 16 ^ k := by
      rw [Nat.pow_succ] at h
      omega
    have ih := w_sN k (n / 16) hlt
    have h5 := (c4_ct ⟨n % 16, hd⟩).2.2
    show w2 (w1 n (16 * mk5 k + 5)) (16 * mk3 k + 3) = 16 * sN k (n / 16) + c4 (n % 16)
    rw [show w1 n (16 * mk5 k + 5) = 16 * w1 (n / 16) (mk5 k) + w1 (n % 16) 5 from (congrArg (fun z => w1 z (16 * mk5 k + 5)) hn).trans (w1_st hd), w2_st h5, ih]
    rfl
theorem ct4 (n : Nat) : ∀ k : Nat, fb_ct (fun i => n.testBit i) (4 + k) = c4 (n % 16) + fb_ct (fun i => (n / 16).testBit i) k := by
  intro k
  rw [fb_ct_split]
  have hd : n % 16 < 16 := Nat.mod_lt _ (by decide)
  rw [(c4_ct ⟨n % 16, hd⟩).1]
  congr 1
  · refine fb_ct_cong fun i hi => ?_
    show n.testBit i = (n % 2 ^ 4).testBit i
    rw [Nat.testBit_mod_two_pow, decide_eq_true hi, Bool.true_and]
  · refine fb_ct_cong fun i _ => ?_
    rw [show n / 16 = n / 2 ^ 4 from rfl, Nat.testBit_div_two_pow, Nat.add_comm]
theorem and15 (z : Nat) : z &&& 15 = z % 16 := by rw [show (15 : Nat) = 2 ^ 4 - 1 from rfl, Nat.and_two_pow_sub_one_eq_mod]
theorem and8 {a : Nat} (ha : a < 256) (m q : Nat) : (256 * m + a) &&& (256 * q + 15) = 256 * (m &&& q) + a % 16 := by
  have h := and_cat (k := 8) ha (show 15 < 2 ^ 8 by decide) m q
  rw [and15 a] at h
  exact h
theorem n3 (u0 u1 u2 u3 : Nat) (h0 : u0 < 256) (h1 : u1 < 256) (h2 : u2 < 256) (_ : u3 < 256) : (256 * (256 * (256 * u3 + u2) + u1) + u0) &&& 252645135 = 256 * (256 * (256 * (u3 % 16) + u2 % 16) + u1 % 16) + u0 % 16 := by
  have s1 := and8 h0 (256 * (256 * u3 + u2) + u1) 986895
  have s2 := and8 h1 (256 * u3 + u2) 3855
  have s3 := and8 h2 u3 15
  have s4 := and15 u3
  have l1 : (256 : Nat) * 986895 + 15 = 252645135 := by decide
  have l2 : (256 : Nat) * 3855 + 15 = 986895 := by decide
  have l3 : (256 : Nat) * 15 + 15 = 3855 := by decide
  rw [l1] at s1
  rw [l2] at s2
  rw [l3] at s3
  rw [s1, s2, s3, s4]
theorem n4 (v0 v1 v2 v3 : Nat) (h0 : v0 ≤ 8) (h1 : v1 ≤ 8) : (256 * (256 * (256 * v3 + v2) + v1) + v0) + (256 * (256 * (256 * v3 + v2) + v1) + v0) / 256 = 65536 * (256 * v3 + v2 + v3) + (256 * (v1 + v2) + (v0 + v1)) := by
  obtain ⟨z, hz⟩ : ∃ z, z = 256 * v3 + v2 := ⟨_, rfl⟩
  rw [← hz]
  have : (256 * (256 * z + v1) + v0) / 256 = 256 * z + v1 := by omega
  rw [this]
  omega
theorem n5 (u w : Nat) (h : w < 65536) : (65536 * u + w) / 65536 = u := by omega
theorem n6 (v0 v1 v2 v3 : Nat) (h0 : v0 ≤ 8) (h1 : v1 ≤ 8) (h2 : v2 ≤ 8) (h3 : v3 ≤ 8) : (65536 * (256 * v3 + v2 + v3) + (256 * (v1 + v2) + (v0 + v1)) + (256 * v3 + v2 + v3)) % 64 = v0 + v1 + v2 + v3 := by
  have : 65536 * (256 * v3 + v2 + v3) + (256 * (v1 + v2) + (v0 + v1)) + (256 * v3 + v2 + v3) = 64 * (1024 * (256 * v3 + v2 + v3) + 4 * (v1 + v2) + 4 * v3) + (v0 + v1 + v2 + v3) := by omega
  rw [this]
  omega
def dg (c0 c1 c2 c3 c5 c6 c7 c8 : Nat) : Nat := 16 * (16 * (16 * (16 * (16 * (16 * (16 * c8 + c7) + c6) + c5) + c3) + c2) + c1) + c0
theorem dg_lt {c0 c1 c2 c3 c5 c6 c7 c8 : Nat} (g0 : c0 ≤ 4) (g1 : c1 ≤ 4) (g2 : c2 ≤ 4) (g3 : c3 ≤ 4) (g5 : c5 ≤ 4) (g6 : c6 ≤ 4) (g7 : c7 ≤ 4) (g8 : c8 ≤ 4) : dg c0 c1 c2 c3 c5 c6 c7 c8 < 2147483648 := by
  unfold dg
  omega
theorem dg_1 {c0 c1 c2 c3 c5 c6 c7 c8 : Nat} (g0 : c0 ≤ 4) (g1 : c1 ≤ 4) (g2 : c2 ≤ 4) (g3 : c3 ≤ 4) (g5 : c5 ≤ 4) (g6 : c6 ≤ 4) (g7 : c7 ≤ 4) (g8 : c8 ≤ 4) : (dg c0 c1 c2 c3 c5 c6 c7 c8 + dg c0 c1 c2 c3 c5 c6 c7 c8 / 16) &&& 252645135 = 256 * (256 * (256 * (c7 + c8) + (c5 + c6)) + (c2 + c3)) + (c0 + c1) := by
  have h : dg c0 c1 c2 c3 c5 c6 c7 c8 + dg c0 c1 c2 c3 c5 c6 c7 c8 / 16 = 256 * (256 * (256 * (16 * c8 + (c7 + c8)) + (16 * (c6 + c7) + (c5 + c6))) + (16 * (c3 + c5) + (c2 + c3))) + (16 * (c1 + c2) + (c0 + c1)) := by
    unfold dg
    obtain ⟨z, hz⟩ : ∃ z, z = 16 * (16 * (16 * (16 * (16 * (16 * c8 + c7) + c6) + c5) + c3) + c2) + c1 := ⟨_, rfl⟩
    rw [← hz]
    have : (16 * z + c0) / 16 = z := by omega
    rw [this, hz]
    omega
  rw [h, n3 _ _ _ _ (by omega) (by omega) (by omega) (by omega)]
  have k0 : (16 * (c1 + c2) + (c0 + c1)) % 16 = c0 + c1 := by omega
  have k1 : (16 * (c3 + c5) + (c2 + c3)) % 16 = c2 + c3 := by omega
  have k2 : (16 * (c6 + c7) + (c5 + c6)) % 16 = c5 + c6 := by omega
  have k3 : (16 * c8 + (c7 + c8)) % 16 = c7 + c8 := by omega
  rw [k0, k1, k2, k3]
theorem c4_le (z : Nat) : c4 (z % 16) ≤ 4 := (c4_ct ⟨z % 16, Nat.mod_lt _ (by decide)⟩).2.1
theorem sN_dg (n : Nat) : sN 8 n = dg (c4 (n % 16)) (c4 (n / 16 % 16)) (c4 (n / 16 / 16 % 16)) (c4 (n / 16 / 16 / 16 % 16)) (c4 (n / 16 / 16 / 16 / 16 % 16)) (c4 (n / 16 / 16 / 16 / 16 / 16 % 16)) (c4 (n / 16 / 16 / 16 / 16 / 16 / 16 % 16)) (c4 (n / 16 / 16 / 16 / 16 / 16 / 16 / 16 % 16)) := by
  unfold dg
  have e : ∀ k z, sN (k + 1) z = 16 * sN k (z / 16) + c4 (z % 16) := fun _ _ => rfl
  have e0 : ∀ z, sN 0 z = 0 := fun _ => rfl
  rw [e 7, e 6, e 5, e 4, e 3, e 2, e 1, e 0, e0, Nat.mul_zero, Nat.zero_add]
theorem ct_dg (n : Nat) : fb_ct (fun i => n.testBit i) 32 = c4 (n % 16) + (c4 (n / 16 % 16) + (c4 (n / 16 / 16 % 16) + (c4 (n / 16 / 16 / 16 % 16) + (c4 (n / 16 / 16 / 16 / 16 % 16) + (c4 (n / 16 / 16 / 16 / 16 / 16 % 16) + (c4 (n / 16 / 16 / 16 / 16 / 16 / 16 % 16) + (c4 (n / 16 / 16 / 16 / 16 / 16 / 16 / 16 % 16) + 0))))))) := by
  have e0 : ∀ f : Nat → Bool, fb_ct f 0 = 0 := fun _ => rfl
  rw [show (32 : Nat) = 4 + 28 from rfl, ct4, show (28 : Nat) = 4 + 24 from rfl, ct4, show (24 : Nat) = 4 + 20 from rfl, ct4, show (20 : Nat) = 4 + 16 from rfl, ct4]
  generalize n / 16 / 16 / 16 / 16 = m
  have : fb_ct (fun i => m.testBit i) 16 = c4 (m % 16) + (c4 (m / 16 % 16) + (c4 (m / 16 / 16 % 16) + (c4 (m / 16 / 16 / 16 % 16) + 0))) := by
    have a := ct4 m 12
    have b := ct4 (m / 16) 8
    have c := ct4 (m / 16 / 16) 4
    have d := ct4 (m / 16 / 16 / 16) 0
    have a : fb_ct (fun i => m.testBit i) 16 = _ := a
    have b : fb_ct (fun i => (m / 16).testBit i) 12 = _ := b
    have c : fb_ct (fun i => (m / 16 / 16).testBit i) 8 = _ := c
    have d : fb_ct (fun i => (m / 16 / 16 / 16).testBit i) 4 = _ := d
    rw [a, b, c, d, e0]
  rw [this]
theorem bcN {n : Nat} (h : n < 2 ^ 32) : f_J6_bitCount_0f7a4 (nI n) = some (nI (fb_ct (fun i => n.testBit i) 32)) := by
  have hs := w_sN 8 n h
  rw [ct_dg]
  have hd := sN_dg n
  have g0 := c4_le n
  have g1 := c4_le (n / 16)
  have g2 := c4_le (n / 16 / 16)
  have g3 := c4_le (n / 16 / 16 / 16)
  have g5 := c4_le (n / 16 / 16 / 16 / 16)
  have g6 := c4_le (n / 16 / 16 / 16 / 16 / 16)
  have g7 := c4_le (n / 16 / 16 / 16 / 16 / 16 / 16)
  have g8 := c4_le (n / 16 / 16 / 16 / 16 / 16 / 16 / 16)
  generalize c4 (n % 16) = c0 at hd g0 ⊢
  generalize c4 (n / 16 % 16) = c1 at hd g1 ⊢
  generalize c4 (n / 16 / 16 % 16) = c2 at hd g2 ⊢
  generalize c4 (n / 16 / 16 / 16 % 16) = c3 at hd g3 ⊢
  generalize c4 (n / 16 / 16 / 16 / 16 % 16) = c5 at hd g5 ⊢
  generalize c4 (n / 16 / 16 / 16 / 16 / 16 % 16) = c6 at hd g6 ⊢
  generalize c4 (n / 16 / 16 / 16 / 16 / 16 / 16 % 16) = c7 at hd g7 ⊢
  generalize c4 (n / 16 / 16 / 16 / 16 / 16 / 16 / 16 % 16) = c8 at hd g8 ⊢
  have k1 : (n / 2 &&& 1431655765) ≤ n / 2 := Nat.and_le_left
  obtain ⟨a1, ha1⟩ : ∃ z, z = n - (n / 2 &&& 1431655765) := ⟨_, rfl⟩
  have l1 : a1 < 2 ^ 32 := by omega
  have s2 : (a1 &&& 858993459) + (a1 / 4 &&& 858993459) = sN 8 n := by rw [ha1]; exact hs
  have l2 : sN 8 n < 2 ^ 32 := by
    rw [hd]
    exact Nat.lt_trans (dg_lt g0 g1 g2 g3 g5 g6 g7 g8) (by decide)
  have t1 : nI n - (ush (nI n) 1 &&& 1431655765) = nI a1 := by
    rw [n_ush h 1 1 (by decide +kernel), show (1431655765 : Int32) = nI 1431655765 from rfl, n_and, pk_sub (show (n / 2 ^ 1 &&& 1431655765) ≤ n from Nat.le_trans k1 (Nat.div_le_self n 2)), ha1]
  have t2 : (nI a1 &&& 858993459) + (ush (nI a1) 2 &&& 858993459) = nI (sN 8 n) := by
    rw [n_ush l1 2 2 (by decide +kernel), show (858993459 : Int32) = nI 858993459 from rfl, n_and, n_and, nI_add, ← s2]
  have e5 : (sN 8 n + sN 8 n / 2 ^ 4) &&& 252645135 = 256 * (256 * (256 * (c7 + c8) + (c5 + c6)) + (c2 + c3)) + (c0 + c1) := by
    rw [hd]
    exact dg_1 g0 g1 g2 g3 g5 g6 g7 g8
  clear hd s2 ha1 k1 hs
  generalize sN 8 n = s at t2 l2 e5
  obtain ⟨v0, hv0⟩ : ∃ z, z = c0 + c1 := ⟨_, rfl⟩
  obtain ⟨v1, hv1⟩ : ∃ z, z = c2 + c3 := ⟨_, rfl⟩
  obtain ⟨v2, hv2⟩ : ∃ z, z = c5 + c6 := ⟨_, rfl⟩
  obtain ⟨v3, hv3⟩ : ∃ z, z = c7 + c8 := ⟨_, rfl⟩
  rw [← hv0, ← hv1, ← hv2, ← hv3] at e5
  obtain ⟨a3, ha3⟩ : ∃ z, z = 256 * (256 * (256 * v3 + v2) + v1) + v0 := ⟨_, rfl⟩
  rw [← ha3] at e5
  have t3 : (nI s + ush (nI s) 4) &&& 252645135 = nI a3 := by
    rw [n_ush l2 4 4 (by decide +kernel), nI_add, show (252645135 : Int32) = nI 252645135 from rfl, n_and, e5]
  have l3 : a3 < 2 ^ 28 := by omega
  obtain ⟨a4, ha4⟩ : ∃ z, z = a3 + a3 / 2 ^ 8 := ⟨_, rfl⟩
  have q4 : a4 = 65536 * (256 * v3 + v2 + v3) + (256 * (v1 + v2) + (v0 + v1)) := by
    rw [ha4, ha3]
    exact n4 v0 v1 v2 v3 (by omega) (by omega)
  have t4 : nI a3 + ush (nI a3) 8 = nI a4 := by rw [n_ush (by omega) 8 8 (by decide +kernel), nI_add, ha4]
  have l4 : a4 < 2 ^ 30 := by omega
  have t5 : nI a4 + ush (nI a4) 16 = nI (a4 + (256 * v3 + v2 + v3)) := by
    rw [n_ush (by omega) 16 16 (by decide +kernel), nI_add]
    have : a4 / 2 ^ 16 = 256 * v3 + v2 + v3 := by
      rw [q4]
      exact n5 _ _ (by omega)
    rw [this]
  have t6 : nI (a4 + (256 * v3 + v2 + v3)) &&& 63 = nI (v0 + v1 + v2 + v3) := by
    rw [show (63 : Int32) = nI 63 from rfl, n_and, show (63 : Nat) = 2 ^ 6 - 1 from rfl, Nat.and_two_pow_sub_one_eq_mod, q4]
    congr 1
    exact n6 v0 v1 v2 v3 (by omega) (by omega) (by omega) (by omega)
  unfold f_J6_bitCount_0f7a4 f_J6_bitCount_0f7a4_b10 f_J6_bitCount_0f7a4_b24 f_J6_bitCount_0f7a4_b34 f_J6_bitCount_0f7a4_b41 f_J6_bitCount_0f7a4_b48
  rw [t1, t2, t3, t4, t5, t6]
  congr 2
  omega
/-- Integer.bitCount -/
theorem bc (x : Int32) : f_J6_bitCount_0f7a4 x = some (nI (fb_ct (bt x) 32)) := by
  obtain ⟨n, h, rfl⟩ := nI_ex x
  rw [bcN h]
  congr 2
  exact fb_ct_cong fun i _ => (tb_of h i).symm
theorem bc24 {x : Int32} (hx : I24 x) : f_J6_bitCount_0f7a4 x = some (nI (nb x)) := by
  rw [bc]
  congr 2
  rw [show (32 : Nat) = 24 + 8 from rfl, fb_ct_split]
  rw [fb_ct_zero.mpr (fun k _ => hx (24 + k) (by omega))]
  rfl
theorem bits_loop (x : Int32) : ∀ (n k c : Nat), k ≤ 24 → 24 < n + k → f_X10_bits_b4 n x (nI c) (nI k) = some (nI (c + (nb x - fb_ct (bt x) k)))
  | 0, k, c, h1, h2 => by omega
  | n + 1, k, c, h1, h2 => by
    rw [f_X10_bits_b4]
    by_cases h : k = 24
    · subst h
      rw [if_pos (show (24 : Int32) ≤ nI 24 from by decide)]
      unfold nb
      rw [Nat.sub_self, Nat.add_zero]
    · have hk : k < 24 := by omega
      rw [if_neg (show ¬ (24 : Int32) ≤ nI k from nI_ge (b := 24) hk (by decide)), b_val x (by omega), nI_1]
      have hm : fb_ct (bt x) (k + 1) ≤ nb x := fb_ct_mono (bt x) hk
      rw [fb_ct_succ] at hm
      cases e : bt x k
      · rw [if_neg Bool.false_ne_true, show nI c + 0 = nI c from Int32.add_zero _, bits_loop x n (k + 1) c (by omega) (by omega), fb_ct_succ, e]
        simp
      · rw [if_pos rfl, nI_1, bits_loop x n (k + 1) (c + 1) (by omega) (by omega), fb_ct_succ, e]
        rw [e] at hm
        simp at hm ⊢
        congr 1
        omega
theorem bits_eq (x : Int32) : f_X10_bits x = some (nI (nb x)) := by
  have h := bits_loop x 500 0 0 (by decide) (by decide)
  rw [show fb_ct (bt x) 0 = 0 from rfl, Nat.sub_zero, Nat.zero_add] at h
  exact h
theorem low_loop {x : Int32} {p : Nat} (hp : isLow x p) : ∀ (n k : Nat), k ≤ p → p < n + k → f_X10_lowest_b2 n x (nI k) = some (nI p)
  | 0, k, h1, h2 => by omega
  | n + 1, k, h1, h2 => by
    have hp24 := hp.1
    rw [f_X10_lowest_b2]
    rw [if_neg (show ¬ (24 : Int32) ≤ nI k from nI_ge (b := 24) (by omega) (by decide))]
    by_cases h : k = p
    · subst h
      rw [if_pos ((b_tst1 x (by omega)).mpr hp.2.1)]
    · rw [if_neg (fun h9 => by
        have := (b_tst1 x (by omega)).mp h9
        rw [hp.2.2 k (by omega)] at this
        cases this), nI_1, low_loop hp n (k + 1) (by omega) (by omega)]
theorem lowest_eq {x : Int32} {p : Nat} (hp : isLow x p) : f_X10_lowest x = some (nI p) := low_loop hp 500 0 (Nat.zero_le _) (by have := hp.1; omega)
theorem tw_bits : ∀ p, p < 32 → ∀ i, i < 32 → bt (((1 : Int32) <<< (nI p &&& 31)) - 1) i = decide (i < p) := by decide +kernel
theorem b_neg (x : Int32) (i : Nat) (hi : i < 32) : bt (-x) i = (bt x i ^^ decide (∃ j, j < i ∧ bt x j = true)) := by
  unfold bt
  rw [Int32.toBitVec_neg, BitVec.getLsbD_neg, decide_eq_true hi, Bool.true_and]
theorem lowP_eq {x : Int32} {p : Nat} (hp : isLow x p) : f_X9_lowestPlace x = some (nI p) := by
  have hp24 := hp.1
  have h1 : x &&& (-x) = (1 : Int32) <<< (nI p &&& 31) := by
    refine b_ext fun i hi => ?_
    rw [b_and, b_neg x i hi, b_one (by omega) hi]
    by_cases c : i = p
    · subst c
      rw [hp.2.1, decide_eq_true rfl]
      have : ¬ ∃ j, j < i ∧ bt x j = true := by
        rintro ⟨j, hj, e⟩
        rw [hp.2.2 j hj] at e
        cases e
      rw [decide_eq_false this]
      rfl
    · rw [decide_eq_false c]
      rcases Nat.lt_or_ge i p with d | d
      · rw [hp.2.2 i d]
        rfl
      · have : ∃ j, j < i ∧ bt x j = true := ⟨p, by omega, hp.2.1⟩
        rw [decide_eq_true this]
        cases bt x i <;> rfl
  unfold f_X9_lowestPlace
  rw [h1, bc]
  show some (nI _) = some (nI _)
  congr 2
  have h2 : fb_ct (bt (((1 : Int32) <<< (nI p &&& 31)) - 1)) 32 = fb_ct (fun i => decide (i < p)) 32 := fb_ct_cong fun i hi => tw_bits p (by omega) i hi
  rw [h2]
  have h3 : ∀ p : Fin 24, fb_ct (fun i => decide (i < p.val)) 32 = p.val := by decide +kernel
  exact h3 ⟨p, hp24⟩
