/-! the picture while one object (with m cells from k on that are not yet as they will be) is being made; behind it all cells hold noughts -/
def ex (G : LG) (b0 k m : Nat) (E X : Nat → va_E) : Nat → va_E := fun q => if q < k then E q else if q < k + m then X (q - k) else cel G b0 Z0 q
def xu (X : Nat → va_E) (j : Nat) (x : va_E) : Nat → va_E := fun i => if i = j then x else X i
def ez (G : LG) (b0 k : Nat) (E : Nat → va_E) : Nat → va_E := fun q => if q < k then E q else cel G b0 Z0 q
section EXL
variable {G : LG} {b0 k m q j n : Nat} {E X : Nat → va_E} {x : va_E}
theorem ex_lt (h : q < k) : ex G b0 k m E X q = E q := if_pos h
theorem ex_at (h : j < m) : ex G b0 k m E X (k + j) = X j := by
  unfold ex
  rw [if_neg (by omega), if_pos (by omega), Nat.add_sub_cancel_left]
theorem ex_k (h : 0 < m) : ex G b0 k m E X k = X 0 := ex_at (j := 0) h
theorem ex_ge (h : k + m ≤ q) : ex G b0 k m E X q = cel G b0 Z0 q := by
  unfold ex
  rw [if_neg (by omega), if_neg (by omega)]
theorem ex_up (h : q ≠ k + j) : ex G b0 k m E (xu X j x) q = ex G b0 k m E X q := by
  unfold ex
  by_cases h1 : q < k
  · rw [if_pos h1, if_pos h1]
  · rw [if_neg h1, if_neg h1]
    by_cases h2 : q < k + m
    · rw [if_pos h2, if_pos h2]
      exact if_neg (by omega)
    · rw [if_neg h2, if_neg h2]
theorem xu_me : xu X j x j = x := if_pos rfl
theorem xu_ne {i : Nat} (h : i ≠ j) : xu X j x i = X i := if_neg h
/-- the beginning: only the object itself is there -/
theorem ex_in (hm : 0 < m) (h : X 0 = E k) : ∀ q, q < k + 1 → ex G b0 k m E X q = E q := by
  intro q hq
  by_cases h1 : q < k
  · exact ex_lt h1
  · have h2 : q = k := by omega
    subst h2
    rw [ex_k hm, h]
/-- the end: all is as it will be -/
theorem ez_ex (h : ∀ j, j < m → X j = cel G b0 Z0 (k + j)) : ∀ q, q < n → ez G b0 k E q = ex G b0 k m E X q := by
  intro q hq
  unfold ez ex
  by_cases h1 : q < k
  · rw [if_pos h1, if_pos h1]
  · rw [if_neg h1, if_neg h1]
    by_cases h2 : q < k + m
    · rw [if_pos h2, h (q - k) (by omega), show k + (q - k) = q by omega]
    · rw [if_neg h2]
theorem one_of {P : Nat → Prop} (h : P 0) : ∀ j, j < 1 → P j := by
  intro j hj
  rw [show j = 0 by omega]
  exact h
end EXL
section MX
variable {p : Program} {l : Launch} {e : Env} {R : Room} {s : State} {m : MethodId} {args : Array Value} {below : List Frame} {meth : Method} {c : Code} {H : Heap} {locs : List Loc} {cells slots : Nat} {Q : State → Prop}
variable {cc : ByteArray} {pc : Nat} {ls : Array Slot} {rest st0 : List Value} {G : LG} {b0 n k w : Nat} {E X : Nat → va_E} {own : String} {nL index : Nat} {ret0 : Option FieldType} {a : Array Value}
theorem xk_put (C : Cx p l s m args meth c G b0 own cc nL ret0) (hN : meth.name = "<init>") (hW : Hw G b0 n (ex G b0 k w E X) H) (hS : va_S (Ab b0) s.heap H locs) (hm : 0 < w) (hk : k < n) {ci N : Nat} {T : u_T} {fs : List Value} {Cn ref : String} {v : Value} (hX : X 0 = .inr (ci, fs)) (hc : vwCl[ci]? = some (Cn, T, N)) (hin : ∀ w ∈ u_ws Cn T N, w ∈ GW) (ty0 : Nat → FieldType) (hty : ∀ k, k < N → parseFieldDescriptor (T k).2.2.1 = some (ty0 k)) (hnm : ∀ a, a < N → ∀ b, b < N → a ≠ b → (T a).2.1 ≠ (T b).2.1) (j : Nat) (hj : j < N) (hlink : Cond.fieldLink own index ref (T j).2.1 (T j).2.2.1 ∈ GW) (hsame : ref = (T j).1) (hfin : (T j).2.2.2 = true → (T j).1 = own) {ty : FieldType} (hd : parseFieldDescriptor (T j).2.2.1 = some ty) (hn : narrow ty v = v) (hfit : fits ty v = true) (hl : j < fs.length) (hdg : decode cc pc = .ok (.putfield index, 3))
    (kk : ∀ (H1 : Heap) (locs1 : List Loc), Hw G b0 n (ex G b0 k w E (xu X 0 (.inr (ci, fs.set j v)))) H1 → va_S (Ab b0) s.heap H1 locs1 → W p l e R s m args below meth c H1 locs1 cells slots Q (F0 m (pc + 3) ls rest)) : W p l e R s m args below meth c H locs cells slots Q (F0 m pc ls (v :: .ref (b0 + k) :: rest)) :=
  w_put C hN hW hS hk ((ex_k hm).trans hX) hc hin ty0 hty hnm j hj hlink hsame hfin hd hn hfit hl hdg (fun q _ h => ex_up (j := 0) h) ((ex_k hm).trans xu_me) kk
theorem xk_get (C : Cx p l s m args meth c G b0 own cc nL ret0) (hW : Hw G b0 n (ex G b0 k w E X) H) (hm : 0 < w) (hk : k < n) {ci N : Nat} {T : u_T} {fs : List Value} {Cn ref : String} {v : Value} (hX : X 0 = .inr (ci, fs)) (hc : vwCl[ci]? = some (Cn, T, N)) (hin : ∀ w ∈ u_ws Cn T N, w ∈ GW) (j : Nat) (hj : j < N) (hlink : Cond.fieldLink own index ref (T j).2.1 (T j).2.2.1 ∈ GW) (hsame : ref = (T j).1) (hv : fs[j]? = some v) (hdg : decode cc pc = .ok (.getfield index, 3))
    (kk : W p l e R s m args below meth c H locs cells slots Q (F0 m (pc + 3) ls (v :: rest))) : W p l e R s m args below meth c H locs cells slots Q (F0 m pc ls (.ref (b0 + k) :: rest)) :=
  w_get C hW hk ((ex_k hm).trans hX) hc hin j hj hlink hsame hv hdg kk
theorem xk_newi (C : Cx p l s m args meth c G b0 own cc nL ret0) (hW : Hw G b0 n (ex G b0 k w E X) H) (hS : va_S (Ab b0) s.heap H locs) (hn : k + w ≤ n) {N : Nat} {z : Int32} (hcel : cel G b0 Z0 n = .inl (G.2.1 0, N, .inl (Z0 n))) (h0 : ¬ z < 0) (hN : z.toNatClampNeg = N) (hbytes : N * 4 ≤ 536870912) (hcells : cells + 1 ≤ R.cells) (hslots : slots + N ≤ R.slots) (hdg : decode cc pc = .ok (.newarray .int, 2))
    (kk : ∀ H1, Hw G b0 (n + 1) (ex G b0 k w E X) H1 → va_S (Ab b0) s.heap H1 locs → W p l e R s m args below meth c H1 locs (cells + 1) (slots + N) Q (F0 m (pc + 2) ls (.ref (b0 + n) :: rest))) : W p l e R s m args below meth c H locs cells slots Q (F0 m pc ls (.int z :: rest)) :=
  w_newa (ty := .int) (t0 := 0) C hW hS rfl rfl (fun h => h) q_275 (N, .inl (Z0 n)) (fun _ => rfl) h0 hN hbytes hcells hslots hdg (fun _ _ => rfl) ((ex_ge hn).trans hcel) kk
theorem xk_newc (C : Cx p l s m args meth c G b0 own cc nL ret0) (hW : Hw G b0 n (ex G b0 k w E X) H) (hS : va_S (Ab b0) s.heap H locs) (hn : k + w ≤ n) {N : Nat} {z : Int32} (hcel : cel G b0 Z0 n = .inl (G.2.1 1, N, .inl (Z0 n))) (h0 : ¬ z < 0) (hN : z.toNatClampNeg = N) (hbytes : N * 2 ≤ 536870912) (hcells : cells + 1 ≤ R.cells) (hslots : slots + N ≤ R.slots) (hdg : decode cc pc = .ok (.newarray .char, 2))
    (kk : ∀ H1, Hw G b0 (n + 1) (ex G b0 k w E X) H1 → va_S (Ab b0) s.heap H1 locs → W p l e R s m args below meth c H1 locs (cells + 1) (slots + N) Q (F0 m (pc + 2) ls (.ref (b0 + n) :: rest))) : W p l e R s m args below meth c H locs cells slots Q (F0 m pc ls (.int z :: rest)) :=
  w_newa (ty := .char) (t0 := 1) C hW hS rfl rfl (fun h => h) q_305 (N, .inl (Z0 n)) (fun _ => rfl) h0 hN hbytes hcells hslots hdg (fun _ _ => rfl) ((ex_ge hn).trans hcel) kk
theorem xk_newq (C : Cx p l s m args meth c G b0 own cc nL ret0) (hW : Hw G b0 n (ex G b0 k w E X) H) (hS : va_S (Ab b0) s.heap H locs) {j : Nat} (hn : n = k + j) (hj : j < w) {Cn : String} {t0 N : Nat} (hover : va_AO Cn s) (ht : (tyL G)[t0]? = some (G.2.1 t0, .object Cn)) (hcl : Cond.classLink own index Cn ∈ GW) {z : Int32} (hX : X j = .inl (G.2.1 t0, N, .inr (.inr (.inr (.inr (fun _ => none)))))) (h0 : ¬ z < 0) (hN : z.toNatClampNeg = N) (hbytes : N * 4 ≤ 536870912) (hcells : cells + 1 ≤ R.cells) (hslots : slots + N ≤ R.slots) (hdg : decode cc pc = .ok (.anewarray index, 3))
    (kk : ∀ H1, Hw G b0 (n + 1) (ex G b0 k w E X) H1 → va_S (Ab b0) s.heap H1 locs → W p l e R s m args below meth c H1 locs (cells + 1) (slots + N) Q (F0 m (pc + 3) ls (.ref (b0 + n) :: rest))) : W p l e R s m args below meth c H locs cells slots Q (F0 m pc ls (.int z :: rest)) :=
  w_anew C hW hS hover ht hcl h0 hN hbytes hcells hslots hdg (fun _ _ => rfl) (by rw [hn]; exact (ex_at hj).trans hX) kk
theorem xk_aast (C : Cx p l s m args meth c G b0 own cc nL ret0) (hW : Hw G b0 n (ex G b0 k w E X) H) (hS : va_S (Ab b0) s.heap H locs) {j kv ci t0 N i : Nat} {r : vw_C} {vs : List Value} {f : Nat → Option Nat} (hj : j < w) (hk : k + j < n) (hX : X j = .inl (G.2.1 t0, N, .inr (.inr (.inr (.inr f))))) (ht : (tyL G)[t0]? = some (G.2.1 t0, .object r.1)) (hkw : k + w ≤ kv) (hkv : kv < n) (hev : cel G b0 Z0 kv = .inr (ci, vs)) (hc : vwCl[ci]? = some r) (hi : i < N) (hN : N < 2 ^ 31) (hdg : decode cc pc = .ok (.aastore, 1))
    {f1 : Nat → Option Nat} (hf : f1 = va_up f i (some (b0 + kv)))
    (kk : ∀ (H1 : Heap) (locs1 : List Loc), Hw G b0 n (ex G b0 k w E (xu X j (.inl (G.2.1 t0, N, .inr (.inr (.inr (.inr f1))))))) H1 → va_S (Ab b0) s.heap H1 locs1 → W p l e R s m args below meth c H1 locs1 cells slots Q (F0 m (pc + 1) ls rest)) : W p l e R s m args below meth c H locs cells slots Q (F0 m pc ls (.ref (b0 + kv) :: .int (nI i) :: .ref (b0 + (k + j)) :: rest)) := by
  subst hf
  exact w_aast C hW hS hk ((ex_at hj).trans hX) ht hkv ((ex_ge hkw).trans hev) hc (ix_nI hi hN) hdg (fun q _ h => ex_up h) ((ex_at hj).trans xu_me) kk
/-- 'new'; 'dup'; the constructor of a nest mate -/
theorem xk_child (C : Cx p l s m args meth c G b0 own cc nL ret0) (hA : Ao s) (hW : Hw G b0 n (ex G b0 k w E X) H) (hS : va_S (Ab b0) s.heap H locs) (hkn : k + w ≤ n) {ci N : Nat} {T : u_T} {fs : List Value} (ty0 : Nat → FieldType) {y : MethodName} {bytes : ByteArray} {maxL d mc ms sz ic : Nat} {host : String}
    (hc : vwCl[ci]? = some (y.cls, T, N)) (hin : ∀ w ∈ u_ws y.cls T N, w ∈ GW) (hty : ∀ k, k < N → parseFieldDescriptor (T k).2.2.1 = some (ty0 k)) (hcl : Cond.classLink own index y.cls ∈ GW) (hinst : Cond.instantiable y.cls N ∈ GW) (hini : Cond.initialized y.cls ∈ GW) (hfs : ∀ j, j < N → defaultValue (ty0 j) = vp_V fs j)
    (hM : ∀ E' : Nat → va_E, E' n = .inr (ci, fs) → Met l y (wy y bytes maxL none) (rmw d mc ms) (va_Pc [.ref (b0 + n)] (Iw G b0 (n + 1) E')) (QW G b0 (n + sz) (ez G b0 n E')) mc ms (Ab b0))
    (hyn : y.name = "<init>") (hl : Cond.methodLinkNest own ic y host ∈ NW) (hi : Cond.instanceMethod y ∈ GW) (hco : Cond.code y bytes maxL none ∈ GW) (hd : dOk y 0) (hR : (rmw d mc ms).frames + 1 ≤ R.frames ∧ 8 + (maxL + 11) + (rmw d mc ms).locals ≤ R.locals) (hls : ls.size = nL) (hn : (rest.map fun v => v.category).sum ≤ 7) (hcs : cells + 1 + mc ≤ R.cells ∧ slots + N + ms ≤ R.slots)
    (d0 : decode cc pc = .ok (.new index, 3)) (d3 : decode cc (pc + 3) = .ok (.dup, 1)) (d4 : decode cc (pc + 4) = .ok (.invokespecial ic, 3))
    (kk : ∀ (H1 : Heap) (locs1 : List Loc), Hw G b0 (n + sz) (ex G b0 k w E X) H1 → va_S (Ab b0) s.heap H1 locs1 → W p l e R s m args below meth c H1 locs1 (cells + 1 + mc) (slots + N + ms) Q (F0 m (pc + 7) ls (.ref (b0 + n) :: rest))) : W p l e R s m args below meth c H locs cells slots Q (F0 m pc ls rest) := by
  obtain ⟨hx, hb, -⟩ := id C
  refine w_new (E1 := xu (ex G b0 k w E X) n (.inr (ci, fs))) C hW hS hc hin ty0 hty hcl hinst hini hfs (by omega) (by omega) d0 (fun q hq => xu_ne (by omega)) xu_me (fun H1 hW1 hS1 => ?_)
  refine lv_dup hx hb d3 rfl ?_
  refine w_callN (E1 := ex G b0 k w E X) C hA hW1 hS1 (hM _ xu_me) hyn hl hi hini hco hd hR hls ?_ d4 hcs (fun q hq => ?_) kk
  · show 1 + (rest.map fun v => v.category).sum ≤ 8
    omega
  · unfold ez
    by_cases h1 : q < n
    · rw [if_pos h1, xu_ne (by omega)]
    · rw [if_neg h1, ex_ge (by omega)]
end MX
