theorem and15 (z : Nat) : z &&& 15 = z % 16 := by rw [show (15 : Nat) = 2 ^ 4 - 1 from rfl, Nat.and_two_pow_sub_one_eq_mod]
theorem and8 {a : Nat} (ha : a < 256) (m q : Nat) : (256 * m + a) &&& (256 * q + 15) = 256 * (m &&& q) + a % 16 := by
  have h := and_cat (k := 8) ha (show 15 < 2 ^ 8 by decide) m q
  rw [and15 a] at h
  exact h
theorem n3 (u0 u1 u2 u3 : Nat) (h0 : u0 < 256) (h1 : u1 < 256) (h2 : u2 < 256) (_ : u3 < 256) : (256 * (256 * (256 * u3 + u2) + u1) + u0) &&& 252645135 = 256 * (256 * (256 * (u3 % 16) + u2 % 16) + u1 % 16) + u0 % 16 := by
  have s1 := and8 h0 (256 * (256 * u3 + u2) + u1) 986895
  have s2 := and8 h1 (256 * u3 + u2) 3855
  have s3 := and8 h2 u3 15
  have s4 := and15 u3
  have l1 : (256 : Nat) * 986895 + 15 = 252645135 := by decide
  have l2 : (256 : Nat) * 3855 + 15 = 986895 := by decide
  have l3 : (256 : Nat) * 15 + 15 = 3855 := by decide
  rw [l1] at s1
  rw [l2] at s2
  rw [l3] at s3
  rw [s1, s2, s3, s4]
theorem n4 (v0 v1 v2 v3 : Nat) (h0 : v0 ≤ 8) (h1 : v1 ≤ 8) : (256 * (256 * (256 * v3 + v2) + v1) + v0) + (256 * (256 * (256 * v3 + v2) + v1) + v0) / 256 = 65536 * (256 * v3 + v2 + v3) + (256 * (v1 + v2) + (v0 + v1)) := by
  obtain ⟨z, hz⟩ : ∃ z, z = 256 * v3 + v2 := ⟨_, rfl⟩
  rw [← hz]
  have : (256 * (256 * z + v1) + v0) / 256 = 256 * z + v1 := by omega
  rw [this]
  omega
theorem n5 (u w : Nat) (h : w < 65536) : (65536 * u + w) / 65536 = u := by omega
theorem n6 (v0 v1 v2 v3 : Nat) (h0 : v0 ≤ 8) (h1 : v1 ≤ 8) (h2 : v2 ≤ 8) (h3 : v3 ≤ 8) : (65536 * (256 * v3 + v2 + v3) + (256 * (v1 + v2) + (v0 + v1)) + (256 * v3 + v2 + v3)) % 64 = v0 + v1 + v2 + v3 := by
  have : 65536 * (256 * v3 + v2 + v3) + (256 * (v1 + v2) + (v0 + v1)) + (256 * v3 + v2 + v3) = 64 * (1024 * (256 * v3 + v2 + v3) + 4 * (v1 + v2) + 4 * v3) + (v0 + v1 + v2 + v3) := by omega
  rw [this]
  omega
def dg (c0 c1 c2 c3 c5 c6 c7 c8 : Nat) : Nat := 16 * (16 * (16 * (16 * (16 * (16 * (16 * c8 + c7) + c6) + c5) + c3) + c2) + c1) + c0
theorem dg_lt {c0 c1 c2 c3 c5 c6 c7 c8 : Nat} (g0 : c0 ≤ 4) (g1 : c1 ≤ 4) (g2 : c2 ≤ 4) (g3 : c3 ≤ 4) (g5 : c5 ≤ 4) (g6 : c6 ≤ 4) (g7 : c7 ≤ 4) (g8 : c8 ≤ 4) : dg c0 c1 c2 c3 c5 c6 c7 c8 < 2147483648 := by
  unfold dg
  omega
theorem dg_1 {c0 c1 c2 c3 c5 c6 c7 c8 : Nat} (g0 : c0 ≤ 4) (g1 : c1 ≤ 4) (g2 : c2 ≤ 4) (g3 : c3 ≤ 4) (g5 : c5 ≤ 4) (g6 : c6 ≤ 4) (g7 : c7 ≤ 4) (g8 : c8 ≤ 4) : (dg c0 c1 c2 c3 c5 c6 c7 c8 + dg c0 c1 c2 c3 c5 c6 c7 c8 / 16) &&& 252645135 = 256 * (256 * (256 * (c7 + c8) + (c5 + c6)) + (c2 + c3)) + (c0 + c1) := by
  have h : dg c0 c1 c2 c3 c5 c6 c7 c8 + dg c0 c1 c2 c3 c5 c6 c7 c8 / 16 = 256 * (256 * (256 * (16 * c8 + (c7 + c8)) + (16 * (c6 + c7) + (c5 + c6))) + (16 * (c3 + c5) + (c2 + c3))) + (16 * (c1 + c2) + (c0 + c1)) := by
    unfold dg
    obtain ⟨z, hz⟩ : ∃ z, z = 16 * (16 * (16 * (16 * (16 * (16 * c8 + c7) + c6) + c5) + c3) + c2) + c1 := ⟨_, rfl⟩
    rw [← hz]
    have : (16 * z + c0) / 16 = z := by omega
    rw [this, hz]
    omega
  rw [h, n3 _ _ _ _ (by omega) (by omega) (by omega) (by omega)]
  have k0 : (16 * (c1 + c2) + (c0 + c1)) % 16 = c0 + c1 := by omega
  have k1 : (16 * (c3 + c5) + (c2 + c3)) % 16 = c2 + c3 := by omega
  have k2 : (16 * (c6 + c7) + (c5 + c6)) % 16 = c5 + c6 := by omega
  have k3 : (16 * c8 + (c7 + c8)) % 16 = c7 + c8 := by omega
  rw [k0, k1, k2, k3]
theorem c4_le (z : Nat) : c4 (z % 16) ≤ 4 := (c4_ct ⟨z % 16, Nat.mod_lt _ (by decide)⟩).2.1
theorem sN_dg (n : Nat) : sN 8 n = dg (c4 (n % 16)) (c4 (n / 16 % 16)) (c4 (n / 16 / 16 % 16)) (c4 (n / 16 / 16 / 16 % 16)) (c4 (n / 16 / 16 / 16 / 16 % 16)) (c4 (n / 16 / 16 / 16 / 16 / 16 % 16)) (c4 (n / 16 / 16 / 16 / 16 / 16 / 16 % 16)) (c4 (n / 16 / 16 / 16 / 16 / 16 / 16 / 16 % 16)) := by
  unfold dg
  have e : ∀ k z, sN (k + 1) z = 16 * sN k (z / 16) + c4 (z % 16) := fun _ _ => rfl
  have e0 : ∀ z, sN 0 z = 0 := fun _ => rfl
  rw [e 7, e 6, e 5, e 4, e 3, e 2, e 1, e 0, e0, Nat.mul_zero, Nat.zero_add]
theorem ct_dg (n : Nat) : fb_ct (fun i => n.testBit i) 32 = c4 (n % 16) + (c4 (n / 16 % 16) + (c4 (n / 16 / 16 % 16) + (c4 (n / 16 / 16 / 16 % 16) + (c4 (n / 16 / 16 / 16 / 16 % 16) + (c4 (n / 16 / 16 / 16 / 16 / 16 % 16) + (c4 (n / 16 / 16 / 16 / 16 / 16 / 16 % 16) + (c4 (n / 16 / 16 / 16 / 16 / 16 / 16 / 16 % 16) + 0))))))) := by
  have e0 : ∀ f : Nat → Bool, fb_ct f 0 = 0 := fun _ => rfl
  rw [show (32 : Nat) = 4 + 28 from rfl, ct4, show (28 : Nat) = 4 + 24 from rfl, ct4, show (24 : Nat) = 4 + 20 from rfl, ct4, show (20 : Nat) = 4 + 16 from rfl, ct4]
  generalize n / 16 / 16 / 16 / 16 = m
  have : fb_ct (fun i => m.testBit i) 16 = c4 (m % 16) + (c4 (m / 16 % 16) + (c4 (m / 16 / 16 % 16) + (c4 (m / 16 / 16 / 16 % 16) + 0))) := by
    have a := ct4 m 12
    have b := ct4 (m / 16) 8
    have c := ct4 (m / 16 / 16) 4
    have d := ct4 (m / 16 / 16 / 16) 0
    have a : fb_ct (fun i => m.testBit i) 16 = _ := a
    have b : fb_ct (fun i => (m / 16).testBit i) 12 = _ := b
    have c : fb_ct (fun i => (m / 16 / 16).testBit i) 8 = _ := c
    have d : fb_ct (fun i => (m / 16 / 16 / 16).testBit i) 4 = _ := d
    rw [a, b, c, d, e0]
  rw [this]
theorem bcN2 {n : Nat} (h : n < 2 ^ 32) : f_J6_bitCount_0f7a4 (nI n) = some (nI (fb_ct (fun i => n.testBit i) 32)) := by
  have hs := w_sN 8 n h
  rw [ct_dg]
  have hd := sN_dg n
  have g0 := c4_le n
  have g1 := c4_le (n / 16)
  have g2 := c4_le (n / 16 / 16)
  have g3 := c4_le (n / 16 / 16 / 16)
  have g5 := c4_le (n / 16 / 16 / 16 / 16)
  have g6 := c4_le (n / 16 / 16 / 16 / 16 / 16)
  have g7 := c4_le (n / 16 / 16 / 16 / 16 / 16 / 16)
  have g8 := c4_le (n / 16 / 16 / 16 / 16 / 16 / 16 / 16)
  generalize c4 (n % 16) = c0 at hd g0 ⊢
  generalize c4 (n / 16 % 16) = c1 at hd g1 ⊢
  generalize c4 (n / 16 / 16 % 16) = c2 at hd g2 ⊢
  generalize c4 (n / 16 / 16 / 16 % 16) = c3 at hd g3 ⊢
  generalize c4 (n / 16 / 16 / 16 / 16 % 16) = c5 at hd g5 ⊢
  generalize c4 (n / 16 / 16 / 16 / 16 / 16 % 16) = c6 at hd g6 ⊢
  generalize c4 (n / 16 / 16 / 16 / 16 / 16 / 16 % 16) = c7 at hd g7 ⊢
  generalize c4 (n / 16 / 16 / 16 / 16 / 16 / 16 / 16 % 16) = c8 at hd g8 ⊢
  have k1 : (n / 2 &&& 1431655765) ≤ n / 2 := Nat.and_le_left
  obtain ⟨a1, ha1⟩ : ∃ z, z = n - (n / 2 &&& 1431655765) := ⟨_, rfl⟩
  have l1 : a1 < 2 ^ 32 := by omega
  have s2 : (a1 &&& 858993459) + (a1 / 4 &&& 858993459) = sN 8 n := by rw [ha1]; exact hs
  have l2 : sN 8 n < 2 ^ 32 := by
    rw [hd]
    exact Nat.lt_trans (dg_lt g0 g1 g2 g3 g5 g6 g7 g8) (by decide)
  have t1 : nI n - (ush (nI n) 1 &&& 1431655765) = nI a1 := by
    rw [n_ush h 1 1 (by decide +kernel), show (1431655765 : Int32) = nI 1431655765 from rfl, n_and, pk_sub (show (n / 2 ^ 1 &&& 1431655765) ≤ n from Nat.le_trans k1 (Nat.div_le_self n 2)), ha1]
  have t2 : (nI a1 &&& 858993459) + (ush (nI a1) 2 &&& 858993459) = nI (sN 8 n) := by
    rw [n_ush l1 2 2 (by decide +kernel), show (858993459 : Int32) = nI 858993459 from rfl, n_and, n_and, nI_add, ← s2]
  have e5 : (sN 8 n + sN 8 n / 2 ^ 4) &&& 252645135 = 256 * (256 * (256 * (c7 + c8) + (c5 + c6)) + (c2 + c3)) + (c0 + c1) := by
    rw [hd]
    exact dg_1 g0 g1 g2 g3 g5 g6 g7 g8
  clear hd s2 ha1 k1 hs
  generalize sN 8 n = s at t2 l2 e5
  obtain ⟨v0, hv0⟩ : ∃ z, z = c0 + c1 := ⟨_, rfl⟩
  obtain ⟨v1, hv1⟩ : ∃ z, z = c2 + c3 := ⟨_, rfl⟩
  obtain ⟨v2, hv2⟩ : ∃ z, z = c5 + c6 := ⟨_, rfl⟩
  obtain ⟨v3, hv3⟩ : ∃ z, z = c7 + c8 := ⟨_, rfl⟩
  rw [← hv0, ← hv1, ← hv2, ← hv3] at e5
  obtain ⟨a3, ha3⟩ : ∃ z, z = 256 * (256 * (256 * v3 + v2) + v1) + v0 := ⟨_, rfl⟩
  rw [← ha3] at e5
  have t3 : (nI s + ush (nI s) 4) &&& 252645135 = nI a3 := by
    rw [n_ush l2 4 4 (by decide +kernel), nI_add, show (252645135 : Int32) = nI 252645135 from rfl, n_and, e5]
  have l3 : a3 < 2 ^ 28 := by omega
  obtain ⟨a4, ha4⟩ : ∃ z, z = a3 + a3 / 2 ^ 8 := ⟨_, rfl⟩
  have q4 : a4 = 65536 * (256 * v3 + v2 + v3) + (256 * (v1 + v2) + (v0 + v1)) := by
    rw [ha4, ha3]
    exact n4 v0 v1 v2 v3 (by omega) (by omega)
  have t4 : nI a3 + ush (nI a3) 8 = nI a4 := by rw [n_ush (by omega) 8 8 (by decide +kernel), nI_add, ha4]
  have l4 : a4 < 2 ^ 30 := by omega
  have t5 : nI a4 + ush (nI a4) 16 = nI (a4 + (256 * v3 + v2 + v3)) := by
    rw [n_ush (by omega) 16 16 (by decide +kernel), nI_add]
    have : a4 / 2 ^ 16 = 256 * v3 + v2 + v3 := by
      rw [q4]
      exact n5 _ _ (by omega)
    rw [this]
  have t6 : nI (a4 + (256 * v3 + v2 + v3)) &&& 63 = nI (v0 + v1 + v2 + v3) := by
    rw [show (63 : Int32) = nI 63 from rfl, n_and, show (63 : Nat) = 2 ^ 6 - 1 from rfl, Nat.and_two_pow_sub_one_eq_mod, q4]
    congr 1
    exact n6 v0 v1 v2 v3 (by omega) (by omega) (by omega) (by omega)
  unfold f_J6_bitCount_0f7a4 f_J6_bitCount_0f7a4_b10 f_J6_bitCount_0f7a4_b24 f_J6_bitCount_0f7a4_b34 f_J6_bitCount_0f7a4_b41 f_J6_bitCount_0f7a4_b48
  rw [t1, t2, t3, t4, t5, t6]
  congr 2
  omega
