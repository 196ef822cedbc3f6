/-- a builder beside the objects, over a heap -/
def SBh (G : LG) (b0 : Nat) (V : St) (a : Nat) (ts : List Int32) (H : Heap) : Prop := ∃ (bv m9 : Nat) (ml : Int32) (f : Nat → Int32), (m9 = 16 ∨ m9 = 34) ∧ ts.length ≤ m9 ∧ Bf f ∧ (∀ j, j < ts.length → f j = tby ts j) ∧ SbF G b0 a bv ∧ Hd (sg G a bv m9 (nI ts.length) ml f) b0 V H
theorem SBI.h {G : LG} {b0 : Nat} {V : St} {a : Nat} {ts : List Int32} {t : State} {H : Heap} (h : SBI G b0 V a ts t) (e : t.heap = H) : SBh G b0 V a ts H := by
  obtain ⟨bv, m9, ml, f, p1, p2, p3, p4, p5, p6⟩ := h
  exact ⟨bv, m9, ml, f, p1, p2, p3, p4, p5, by rw [← e]; exact p6.1⟩
/-- bytes only -/
def Bl (us : List Int32) : Prop := ∀ x ∈ us, fits .byte (.int x) = true
theorem Bl.f {us : List Int32} (h : Bl us) : Bf (tby us) := fun j => by
  unfold tby
  rw [List.getD_eq_getElem?_getD]
  cases e : us[j]? with
  | none => decide
  | some x => exact h x (List.mem_of_getElem? e)
theorem Bl.app {us vs : List Int32} (h : Bl us) (g : Bl vs) : Bl (us ++ vs) := fun x hx => (List.mem_append.mp hx).elim (h x) (g x)
theorem Bl.dg {k : Nat} (hk : k < 100) : Bl (dgs k) := fun x hx => by
  obtain ⟨-, -, -, -, -, -, -, g8, g9, -, -⟩ := ng_dec k hk
  unfold dgs at hx
  split at hx
  · rename_i h
    rw [List.mem_singleton] at hx
    rw [show k % 10 = k by omega] at g8
    rw [hx]; exact g8
  · rcases List.mem_cons.mp hx with rfl | hx
    · exact g9
    · rw [List.mem_singleton] at hx
      rw [hx]; exact g8
section TX
variable {p : Program} {l : Launch} {e : Env} {N0 : Nat} {s : State} {m : MethodId} {args : Array Value} {below : List Frame} {meth : Method} {c : Code} {H : Heap} {locs : List Loc} {Q : State → Prop}
variable {cc : ByteArray} {pc : Nat} {ls : Array Slot} {rest : List Value} {G : LG} {b0 w : Nat} {V : St} {nL index : Nat} {ret0 : Option FieldType}
set_option maxHeartbeats 4000000 in
theorem t_apps {a : Nat} {ts : List Int32} (C : Cx p l s m args meth c G b0 RL cc nL ret0) (hS : va_S (Ab b0) s.heap H locs) (hls : ls.size = nL) (hn : (rest.map fun v => v.category).sum ≤ 8) (hB : SBh G b0 V a ts H) {sa tv : Nat} {us : List Int32} (hs : Src G sa tv us) (hu : ts.length + us.length ≤ 34) (hfu : Bl us) (hl : Cond.methodLink RL index yJ4_append_15ec4 ∈ GW) (hdg : decode cc pc = .ok (.invokevirtual index, 3)) (hw : w + 6 ≤ N0)
    (kk : ∀ (H1 : Heap) (locs1 : List Loc), SBh G b0 V a (ts ++ us) H1 → va_S (Ab b0) s.heap H1 locs1 → W p l e (rmc 14 N0) s m args below meth c H1 locs1 (w + 6) (6 * (w + 6)) Q (F0 m (pc + 3) ls (.ref a :: rest))) : W p l e (rmc 14 N0) s m args below meth c H locs w (6 * w) Q (F0 m pc ls (.ref sa :: .ref a :: rest)) := by
  obtain ⟨bv, m9, ml, f, p1, p2, p3, p4, p5, hV⟩ := hB
  obtain ⟨hx, hb, hr, hml, hown, hts, hlocks, hK, hSv⟩ := id C
  have C2 : Cx p l s m args meth c (sg G a bv m9 (nI ts.length) ml f) b0 RL cc nL ret0 := C
  refine cal_p (run_K (As := [.ref sa]) (rest := rest) C2 hV hS (c_app4s l G b0 V a bv m9 ml f p5 ts p1 p3 p2 p4 sa tv us hs hu hfu.f) (rcv_m (show Kv (sg G a bv m9 (nI ts.length) ml f) s from hK) hV sg_a (ci := 1) rfl) (hts _ q_882) hl q_881 q_116 q_883 dk_J4_append_15ec4 (rmc_ok (by decide) (by decide)) hls rfl hn hdg (rmc_cs hw)) hS (fun r t H1 locs1 hP ht hS => ?_)
  obtain ⟨rfl, hP⟩ := hP
  exact kk H1 locs1 (hP.h ht) hS
set_option maxHeartbeats 4000000 in
theorem t_appi {a : Nat} {ts : List Int32} (C : Cx p l s m args meth c G b0 RL cc nL ret0) (hS : va_S (Ab b0) s.heap H locs) (hls : ls.size = nL) (hn : (rest.map fun v => v.category).sum ≤ 8) (hB : SBh G b0 V a ts H) {k : Nat} (hk : k < 100) (hu : ts.length + (dgs k).length ≤ 34) (hl : Cond.methodLink RL index yJ4_append_bf812 ∈ GW) (hdg : decode cc pc = .ok (.invokevirtual index, 3)) (hw : w + 6 ≤ N0)
    (kk : ∀ (H1 : Heap) (locs1 : List Loc), SBh G b0 V a (ts ++ dgs k) H1 → va_S (Ab b0) s.heap H1 locs1 → W p l e (rmc 14 N0) s m args below meth c H1 locs1 (w + 6) (6 * (w + 6)) Q (F0 m (pc + 3) ls (.ref a :: rest))) : W p l e (rmc 14 N0) s m args below meth c H locs w (6 * w) Q (F0 m pc ls (.int (nI k) :: .ref a :: rest)) := by
  obtain ⟨bv, m9, ml, f, p1, p2, p3, p4, p5, hV⟩ := hB
  obtain ⟨hx, hb, hr, hml, hown, hts, hlocks, hK, hSv⟩ := id C
  have C2 : Cx p l s m args meth c (sg G a bv m9 (nI ts.length) ml f) b0 RL cc nL ret0 := C
  refine cal_p (run_K (As := [.int (nI k)]) (rest := rest) C2 hV hS (c_app4i l G b0 V a bv m9 ml f p5 ts p1 p3 p2 p4 k hk hu) (rcv_m (show Kv (sg G a bv m9 (nI ts.length) ml f) s from hK) hV sg_a (ci := 1) rfl) (hts _ q_998) hl q_997 q_116 q_999 dk_J4_append_bf812 (rmc_ok (by decide) (by decide)) hls rfl hn hdg (rmc_cs hw)) hS (fun r t H1 locs1 hP ht hS => ?_)
  obtain ⟨rfl, hP⟩ := hP
  exact kk H1 locs1 (hP.h ht) hS
set_option maxHeartbeats 4000000 in
theorem t_new (C : Cx p l s m args meth c G b0 RL cc nL ret0) (hS : va_S (Ab b0) s.heap H locs) (hls : ls.size = nL) (hn : (rest.map fun v => v.category).sum ≤ 8) (hV : Hd G b0 V H) (hcl : Cond.classLink RL index "java/lang/StringBuilder" ∈ GW) {ind2 : Nat} (hl : Cond.methodLink RL ind2 yJ4_init_da8c8 ∈ GW) (hdg0 : decode cc pc = .ok (.new index, 3)) (hdg1 : decode cc (pc + 3) = .ok (.dup, 1)) (hdg2 : decode cc (pc + 4) = .ok (.invokespecial ind2, 3)) (hn1 : ((rest.map fun v => v.category).sum + 1) ≤ 8) (hw : w + 4 ≤ N0)
    (kk : ∀ (a : Nat) (H1 : Heap) (locs1 : List Loc), SBh G b0 V a [] H1 → va_S (Ab b0) s.heap H1 locs1 → W p l e (rmc 14 N0) s m args below meth c H1 locs1 (w + 4) (6 * (w + 4)) Q (F0 m (pc + 7) ls (.ref a :: rest))) : W p l e (rmc 14 N0) s m args below meth c H locs w (6 * w) Q (F0 m pc ls (rest)) := by
  obtain ⟨hx, hb, hr, hml, hown, hts, hlocks, hK, hSv⟩ := id C
  refine x_newo (w := w) (u := 1) (ci := 1) (N := 4) (T := TJ4) (fs := [.null, .int 0, .int 0, .int 0]) C hV hS rfl inJ4 tyJ4 tyJ4_ok hcl q_849 q_116 (by intro j hj; (iterate 4 (rcases j with _ | j; · rfl)); omega) ⟨by decide, by decide⟩ (rmc_cs (by omega)) hdg0 (fun a H hF hV hS => ?_)
  refine lv_dup hx hb hdg1 rfl ?_
  have C2 : Cx p l s m args meth c (xg G a (.inr (1, [.null, .int 0, .int 0, .int 0]) : va_E)) b0 RL cc nL ret0 := C
  refine cal_n (run_I (As := []) (rest := .ref a :: rest) C2 hV hS (c_sbI4 l G b0 V a hF) rfl hl q_851 q_116 q_852 dk_J4_init_da8c8 (rmc_ok (by decide) (by decide)) hls rfl (by show (1 + (rest.map fun v => v.category).sum) ≤ 8; omega) hdg2 (rmc_cs (by omega))) hS (fun t H1 locs1 hP ht hS => ?_)
  exact kk a H1 locs1 (SBI.h hP ht) hS
set_option maxHeartbeats 4000000 in
theorem t_str {a : Nat} {ts : List Int32} (C : Cx p l s m args meth c G b0 RL cc nL ret0) (hS : va_S (Ab b0) s.heap H locs) (hls : ls.size = nL) (hn : (rest.map fun v => v.category).sum ≤ 8) (hB : SBh G b0 V a ts H) (hn9 : ts.length < 34 ∧ ts.length ≠ 16) (hl : Cond.methodLink RL index yJ4_toString_0e30d ∈ GW) (hdg : decode cc pc = .ok (.invokevirtual index, 3)) (hw : w + 7 ≤ N0)
    (kk : ∀ (v t9 : Nat) (H1 : Heap) (locs1 : List Loc), Fr G b0 v → Fr G b0 t9 → t9 ≠ v → Hd (tg G v t9 (0, 0) ts) b0 V H1 → va_S (Ab b0) s.heap H1 locs1 → W p l e (rmc 14 N0) s m args below meth c H1 locs1 (w + 7) (6 * (w + 7)) Q (F0 m (pc + 3) ls (.ref t9 :: rest))) : W p l e (rmc 14 N0) s m args below meth c H locs w (6 * w) Q (F0 m pc ls (.ref a :: rest)) := by
  obtain ⟨bv, m9, ml, f, p1, p2, p3, p4, p5, hV⟩ := hB
  obtain ⟨hx, hb, hr, hml, hown, hts, hlocks, hK, hSv⟩ := id C
  have C2 : Cx p l s m args meth c (sg G a bv m9 (nI ts.length) ml f) b0 RL cc nL ret0 := C
  refine cal_p (run_K (As := []) (rest := rest) C2 hV hS (c_toStr l (sg G a bv m9 (nI ts.length) ml f) b0 V a bv m9 ml f ts sg_a sg_b (by omega) p3 p4) (rcv_m (show Kv (sg G a bv m9 (nI ts.length) ml f) s from hK) hV sg_a (ci := 1) rfl) (hts _ q_1026) hl q_1025 q_116 q_1027 dk_J4_toString_0e30d (rmc_ok (by decide) (by decide)) hls rfl hn hdg (rmc_cs hw)) hS (fun t9 t H1 locs1 hP ht hS => ?_)
  obtain ⟨v, h1, h2, h3, h4⟩ := hP
  have hV1 : Hd (tg (sg G a bv m9 (nI ts.length) ml f) v t9 (0, 0) ts) b0 V H1 := by rw [← ht]; exact h4.1
  refine kk v t9 H1 locs1 ⟨h1.1, fun x hx => h1.2 x (sg_g hx)⟩ ⟨h2.1, fun x hx => h2.2 x (sg_g hx)⟩ h3 ⟨hV1.1, fun x hx => hV1.2.1 x ?_, fun x hx => hV1.2.2 x ?_⟩ hS
  all_goals
    rcases List.mem_cons.mp hx with rfl | hx
    · exact List.mem_cons_self
    rcases List.mem_cons.mp hx with rfl | hx
    · exact List.mem_cons_of_mem _ List.mem_cons_self
    exact List.mem_cons_of_mem _ (List.mem_cons_of_mem _ (sg_g hx))
/-- back from the inner builder to the outer one -/
theorem t_back {a : Nat} {ts us : List Int32} {bv m9 : Nat} {ml : Int32} {f : Nat → Int32} {v t9 : Nat} {z : Int32 × Int32} (p1 : m9 = 16 ∨ m9 = 34) (p2 : ts.length ≤ m9) (p3 : Bf f) (p4 : ∀ j, j < ts.length → f j = tby ts j) (p5 : SbF G b0 a bv) (h1 : Fr (sg G a bv m9 (nI ts.length) ml f) b0 v) (h2 : Fr (sg G a bv m9 (nI ts.length) ml f) b0 t9) (hV : Hd (tg (sg G a bv m9 (nI ts.length) ml f) v t9 z us) b0 V H) : SBh (tg G v t9 z us) b0 V a ts H := by
  refine ⟨bv, m9, ml, f, p1, p2, p3, p4, ⟨⟨p5.1.1, fun x hx => ?_⟩, ⟨p5.2.1.1, fun x hx => ?_⟩, p5.2.2⟩, hV.1, fun x hx => hV.2.1 x ?_, fun x hx => hV.2.2 x ?_⟩
  · rcases List.mem_cons.mp hx with rfl | hx
    · exact fun e => h2.2 _ sg_b e.symm
    rcases List.mem_cons.mp hx with rfl | hx
    · exact fun e => h1.2 _ sg_b e.symm
    exact p5.1.2 x hx
  · rcases List.mem_cons.mp hx with rfl | hx
    · exact fun e => h2.2 _ sg_a e.symm
    rcases List.mem_cons.mp hx with rfl | hx
    · exact fun e => h1.2 _ sg_a e.symm
    exact p5.2.1.2 x hx
  all_goals
    rcases List.mem_cons.mp hx with rfl | hx
    · exact List.mem_cons_of_mem _ (List.mem_cons_of_mem _ List.mem_cons_self)
    rcases List.mem_cons.mp hx with rfl | hx
    · exact List.mem_cons_of_mem _ (List.mem_cons_of_mem _ (List.mem_cons_of_mem _ List.mem_cons_self))
    rcases List.mem_cons.mp hx with rfl | hx
    · exact List.mem_cons_self
    rcases List.mem_cons.mp hx with rfl | hx
    · exact List.mem_cons_of_mem _ List.mem_cons_self
    exact List.mem_cons_of_mem _ (List.mem_cons_of_mem _ (sg_g hx))
end TX
/-- the text's characters, as they are fed -/
def txc (ts : List Int32) (j : Nat) : Int32 := i2c (tby ts j &&& 255)
theorem tg_src {G : LG} {v t : Nat} {z : Int32 × Int32} {ts : List Int32} : Src (tg G v t z ts) t v ts := Or.inr ⟨z, List.mem_cons_self, List.mem_cons_of_mem _ List.mem_cons_self⟩
theorem c_J0_length_t (l : Launch) (G : LG) (b0 : Nat) (V : St) (v9 t9 : Nat) (z9 : Int32 × Int32) (ts : List Int32) (h : ts.length ≤ 60) : Met l yJ0_length_8abf5 (wy yJ0_length_8abf5 cJ0_length_8abf5 1 (some .int)) (rm 1) (va_Pc [.ref t9] (Iv (tg G v9 t9 z9 ts) b0 V)) (QI (tg G v9 t9 z9 ts) b0 (nI ts.length) V) 0 0 (Ab b0) := c_len_g l (tg G v9 t9 z9 ts) b0 V t9 v9 ts tg_src (by omega)
theorem c_J0_charAt_t (l : Launch) (G : LG) (b0 : Nat) (V : St) (v9 t9 : Nat) (z9 : Int32 × Int32) (ts : List Int32) (h : ts.length ≤ 60) (x : Int32) (j : Nat) (hj : ix x ts.length = some j) : Met l yJ0_charAt_5068e (wy yJ0_charAt_5068e cJ0_charAt_5068e 2 (some .char)) (rm 4) (va_Pc [.ref t9, .int x] (Iv (tg G v9 t9 z9 ts) b0 V)) (QI (tg G v9 t9 z9 ts) b0 (txc ts j) V) 0 0 (Ab b0) := c_charAt_g l (tg G v9 t9 z9 ts) b0 V t9 v9 ts tg_src (by omega) x j hj
theorem rcv_t {s : State} {G : LG} {b0 : Nat} {V : St} {H : Heap} {v9 t9 : Nat} {z9 : Int32 × Int32} {ts : List Int32} (hK : Kv (tg G v9 t9 z9 ts) s) (hV : Hd (tg G v9 t9 z9 ts) b0 V H) : ∃ cellB : Cell, H[t9]? = some cellB ∧ cellB.vm.isStatics = false ∧ s.vm.findClass "java/lang/String" = some cellB.cls := rcv_m hK hV List.mem_cons_self (ci := 0) rfl
/-- what the law's text is -/
def txi (n p v q : Nat) : List Int32 := if v % 4 = 0 then byS ";tide " ++ dgs (v % 5) else if v % 4 = 1 then byS ";note " ++ dgs n ++ byS " " ++ dgs p else if v % 4 = 2 then byS ";tear " ++ dgs n ++ byS " " ++ dgs p ++ byS "-" ++ dgs q else byS ";"
def txo (n p v : Nat) : List Int32 := byS "knot " ++ dgs n ++ byS " " ++ dgs p ++ byS "=" ++ dgs (v % 4)
def txt (n p v q : Int32) : Option (List Int32) := if (nI n.toNatClampNeg = n ∧ n.toNatClampNeg < 10) ∧ (nI p.toNatClampNeg = p ∧ p.toNatClampNeg < 100) ∧ (nI v.toNatClampNeg = v ∧ v.toNatClampNeg < 1000) ∧ (nI q.toNatClampNeg = q ∧ q.toNatClampNeg < 100) then some (txo n.toNatClampNeg p.toNatClampNeg v.toNatClampNeg ++ txi n.toNatClampNeg p.toNatClampNeg v.toNatClampNeg q.toNatClampNeg) else none
