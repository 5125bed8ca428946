-- how the objects are made: worlds that grow
/-- what the makers need of the start: the row_z STITCHES, old; rows of texts and of sheets can be made; the nest's words -/
def Zst0 (z0 sa : Nat) (U : State) : Prop := va_Z "KnitRiver$Reach" "STITCHES" "[I" (.ref sa) (fun a_z => z0 ≤ a_z) U U.heap ∧ Zoa sa .int 4 (fun j_z => ([0, 10, 12, 60] : List Int32).getD j_z 0) U U.heap ∧ sa < z0 ∧ z0 ≤ U.heap.size ∧ va_AO "KnitRiver$Text" U ∧ va_AO "KnitRiver$Sheet" U ∧ ∀ w_z ∈ Znest, va_Nw w_z U
theorem Zst0.at {z0 sa : Nat} {A : Nat → Prop} {s_z U : State} {H : Heap} {locs : List Loc} (h_z : Zst0 z0 sa s_z) (hS_z : va_S A s_z.heap H locs) (hA_z : ∀ a_z, A a_z → z0 ≤ a_z) (hU : U.heap = H) (hW : s_z.WarmedH U.vm) : Zst0 z0 sa U := by
  obtain ⟨h1_z, h2_z, h3_z, h4_z, h5_z, h6_z, h7_z⟩ := h_z
  refine ⟨?_, ?_, h3_z, ?_, h5_z.moved hW.alike, h6_z.moved hW.alike, fun w_z hw_z => ?_⟩
  · rw [hU]
    exact (h1_z.kept (fun a_z a1_z a2_z => hS_z.2.1 a_z a1_z (fun q_z => a2_z (hA_z a_z q_z)))).moved hW.alike
  · rw [hU]
    exact (h2_z.kept (hS_z.2.1 _ h2_z.lt (fun q_z => absurd (hA_z _ q_z) (Nat.not_le.mpr h3_z)))).moved hW.alike
  · rw [hU]
    exact Nat.le_trans h4_z hS_z.1
  · have g1 := (List.mem_filter.mp hw_z).2
    have g2 := h7_z w_z hw_z
    cases w_z <;> first | (exact va_Nw.warmM hW g2) | (simp [Zisn] at g1)
theorem Zst0.blind {z0 sa : Nat} {U : State} {g_z : JFrame} {mk : MethodId} {a_z : Array Value} (h_z : Zst0 z0 sa U) : Zst0 z0 sa (U.calling g_z mk a_z) := by
  obtain ⟨h1_z, h2_z, h3_z, h4_z, h5_z, h6_z, h7_z⟩ := h_z
  refine ⟨h1_z.moved (u := U) (U := U.calling g_z mk a_z) (Vm.Alike.refl U.vm), h2_z.moved (u := U) (U := U.calling g_z mk a_z) (Vm.Alike.refl U.vm), h3_z, h4_z, h5_z.moved (u := U) (U := U.calling g_z mk a_z) (Vm.Alike.refl U.vm), h6_z.moved (u := U) (U := U.calling g_z mk a_z) (Vm.Alike.refl U.vm), fun w_z hw_z => ?_⟩
  refine va_Nw.same ?_ (rfl : U.vm = (U.calling g_z mk a_z).vm) (h7_z w_z hw_z)
  have := (List.mem_filter.mp hw_z).2
  cases w_z <;> first | rfl | (simp [Zisn] at this)
/-- what the walk of a_z maker stands on -/
def ZNK (X : Zx) (k_z z0 sa fr mc ms : Nat) : Prop :=
  (zp X).tables.exec = Jvm.exec ∧ (zc X).code = (Zmt k_z).2.1 ∧ (zs X).vm.findClass (Zmt k_z).1.cls = some (zm X).cls ∧ (∀ w_z ∈ Ztg, w_z.before (za X) (zs X) = true) ∧ va_K (zD X) Zcl (Zty (zcA X)) (zs X) ∧
  (∀ a_z, (zs X).heap.size ≤ a_z → zA X a_z) ∧ (∀ a_z, zA X a_z → z0 ≤ a_z) ∧ Zst0 z0 sa (zs X) ∧ (zc X).maxLocals = (Zmt k_z).2.2.1 ∧ ((fr ≤ (zR X).frames ∧ 40 * fr ≤ (zR X).locals) ∧ mc ≤ (zR X).cells ∧ ms ≤ (zR X).slots)
/-- from here, with this world, the method comes to its end -/
def ZN (X : Zx) (ws : va_W) (l : List (Nat × Value)) (st : List Value) (pc ce sl : Nat) : Prop :=
  ∀ (H : Heap) (locs : List Loc) (ls : Array Slot), va_P (zD X) Zcl ws H → va_D (zA X) ws → va_S (zA X) (zs X).heap H locs → lv_has ls (zc X).maxLocals l → W (zp X) (zl X) (ze X) (zR X) (zs X) (zm X) (za X) (zb X) (zme X) (zc X) H locs ce sl (zQ X) (F0 (zm X) pc ls st)
/-- the row_z of numbers, and of bytes, as new ones are -/
abbrev eI (cA : Nat → ClassId) (n_z : Nat) : va_E := .inl (cA 0, n_z, .inl (fun _ => 0))
abbrev eB (cA : Nat → ClassId) (n_z : Nat) : va_E := .inl (cA 1, n_z, .inl (fun _ => 0))
abbrev eR (cA : Nat → ClassId) (t n_z : Nat) (L : List Nat) : va_E := .inl (cA t, n_z, .inr (.inr (.inr (.inr (fun k_z => L[k_z]?)))))
abbrev eO (c_z : Nat) (fs : List Value) : va_E := .inr (c_z, fs)
section ZNR
variable {X : Zx} {k_z z0 sa fr mc ms : Nat} {ws ws' : va_W} {l l' : List (Nat × Value)} {st : List Value} {pc pc' ce ce' sl sl' : Nat}
theorem Zn_w (h_z : ws = ws') (kk : ZN X ws' l st pc ce sl) : ZN X ws l st pc ce sl := h_z ▸ kk
theorem Zn_al {i_z : Fin 4} {j_z a_z : Nat} (hX : ZNK X k_z z0 sa fr mc ms) (hd_z : decode (Zmt k_z).2.1 pc = .ok (.aload_n i_z, 1)) (hl0 : l[j_z]? = some ((i_z : Nat), .ref a_z)) (hp : pc + 1 = pc') (kk : ZN X ws l (.ref a_z :: st) pc' ce sl) : ZN X ws l st pc ce sl := by
  intro H locs ls hP_z hD hS_z hl_z
  subst hp
  exact lv_aload_n hX.1 hX.2.1 hd_z rfl (lv_at hl_z j_z hl0) (kk H locs ls hP_z hD hS_z hl_z)
theorem Zn_il {i_z : Fin 4} {j_z : Nat} {x_z : Int32} (hX : ZNK X k_z z0 sa fr mc ms) (hd_z : decode (Zmt k_z).2.1 pc = .ok (.iload_n i_z, 1)) (hl0 : l[j_z]? = some ((i_z : Nat), .int x_z)) (hp : pc + 1 = pc') (kk : ZN X ws l (.int x_z :: st) pc' ce sl) : ZN X ws l st pc ce sl := by
  intro H locs ls hP_z hD hS_z hl_z
  subst hp
  exact lv_iload_n hX.1 hX.2.1 hd_z rfl (lv_at hl_z j_z hl0) (kk H locs ls hP_z hD hS_z hl_z)
theorem Zn_is {i_z : Fin 4} {x_z : Int32} (hX : ZNK X k_z z0 sa fr mc ms) (hd_z : decode (Zmt k_z).2.1 pc = .ok (.istore_n i_z, 1)) (hm_z : (i_z : Nat) < (Zmt k_z).2.2.1) (hl' : ((i_z : Nat), Value.int x_z) :: l.filter (fun q_z => !(q_z.1 == (i_z : Nat)) && !(q_z.1 + 1 == (i_z : Nat) && q_z.2.category == 2)) = l') (hp : pc + 1 = pc') (kk : ZN X ws l' st pc' ce sl) : ZN X ws l (.int x_z :: st) pc ce sl := by
  intro H locs ls hP_z hD hS_z hl_z
  subst hp
  exact lv_istore_n hX.1 hX.2.1 hd_z rfl hl_z (by rw [hX.2.2.2.2.2.2.2.2.1]; exact hm_z) hl' (fun ls2 hl2 => kk H locs ls2 hP_z hD hS_z hl2)
theorem Zn_as {i_z : Fin 4} {a_z : Nat} (hX : ZNK X k_z z0 sa fr mc ms) (hd_z : decode (Zmt k_z).2.1 pc = .ok (.astore_n i_z, 1)) (hm_z : (i_z : Nat) < (Zmt k_z).2.2.1) (hl' : ((i_z : Nat), Value.ref a_z) :: l.filter (fun q_z => !(q_z.1 == (i_z : Nat)) && !(q_z.1 + 1 == (i_z : Nat) && q_z.2.category == 2)) = l') (hp : pc + 1 = pc') (kk : ZN X ws l' st pc' ce sl) : ZN X ws l (.ref a_z :: st) pc ce sl := by
  intro H locs ls hP_z hD hS_z hl_z
  subst hp
  exact lv_astore_n hX.1 hX.2.1 hd_z rfl hl_z (by rw [hX.2.2.2.2.2.2.2.2.1]; exact hm_z) hl' (fun ls2 hl2 => kk H locs ls2 hP_z hD hS_z hl2)
theorem Zn_ii {i_z j_z : Nat} {n_z : Int} {x_z v_z : Int32} (hX : ZNK X k_z z0 sa fr mc ms) (hd_z : decode (Zmt k_z).2.1 pc = .ok (.iinc i_z n_z, 3)) (hj_z : l[j_z]? = some (i_z, .int x_z)) (hv_z : x_z + Int32.ofInt n_z = v_z) (hm_z : i_z < (Zmt k_z).2.2.1) (hl' : (i_z, Value.int v_z) :: l.filter (fun q_z => !(q_z.1 == i_z) && !(q_z.1 + 1 == i_z && q_z.2.category == 2)) = l') (hp : pc + 3 = pc') (kk : ZN X ws l' st pc' ce sl) : ZN X ws l st pc ce sl := by
  intro H locs ls hP_z hD hS_z hl_z
  subst hp
  exact lv_iinc hX.1 hX.2.1 hd_z hl_z hj_z hv_z (by rw [hX.2.2.2.2.2.2.2.2.1]; exact hm_z) hl' (fun ls2 hl2 => kk H locs ls2 hP_z hD hS_z hl2)
theorem Zn_go {off : Int} (hX : ZNK X k_z z0 sa fr mc ms) (hd_z : decode (Zmt k_z).2.1 pc = .ok (.goto off, 3)) (ht_z : (pc : Int) + off = (pc' : Int)) (kk : ZN X ws l st pc' ce sl) : ZN X ws l st pc ce sl := by
  intro H locs ls hP_z hD hS_z hl_z
  exact lv_goto hX.1 hX.2.1 hd_z ht_z (kk H locs ls hP_z hD hS_z hl_z)
theorem Zn_geT {off : Int} {x_z y_z : Int32} (hX : ZNK X k_z z0 sa fr mc ms) (hd_z : decode (Zmt k_z).2.1 pc = .ok (.if_icmp .ge off, 3)) (ht_z : (pc : Int) + off = (pc' : Int)) (hxy : y_z ≤ x_z) (kk : ZN X ws l st pc' ce sl) : ZN X ws l (.int y_z :: .int x_z :: st) pc ce sl := by
  intro H locs ls hP_z hD hS_z hl_z
  exact lv_icmp_ge hX.1 hX.2.1 hd_z ht_z (fun _ => kk H locs ls hP_z hD hS_z hl_z) (fun q_z => absurd hxy q_z)
theorem Zn_geF {off : Int} {tg : Nat} {x_z y_z : Int32} (hX : ZNK X k_z z0 sa fr mc ms) (hd_z : decode (Zmt k_z).2.1 pc = .ok (.if_icmp .ge off, 3)) (ht_z : (pc : Int) + off = (tg : Int)) (hxy : ¬ y_z ≤ x_z) (hp : pc + 3 = pc') (kk : ZN X ws l st pc' ce sl) : ZN X ws l (.int y_z :: .int x_z :: st) pc ce sl := by
  intro H locs ls hP_z hD hS_z hl_z
  subst hp
  exact lv_icmp_ge hX.1 hX.2.1 hd_z ht_z (fun q_z => absurd q_z hxy) (fun _ => kk H locs ls hP_z hD hS_z hl_z)
theorem Zn_ic {n_z : Int} {v_z : Int32} (hX : ZNK X k_z z0 sa fr mc ms) (hd_z : decode (Zmt k_z).2.1 pc = .ok (.iconst n_z, 1)) (hv_z : Int32.ofInt n_z = v_z) (hp : pc + 1 = pc') (kk : ZN X ws l (.int v_z :: st) pc' ce sl) : ZN X ws l st pc ce sl := by
  intro H locs ls hP_z hD hS_z hl_z
  subst hp
  exact lv_iconst hX.1 hX.2.1 hd_z hv_z (kk H locs ls hP_z hD hS_z hl_z)
theorem Zn_bi {n_z : Int} {v_z : Int32} (hX : ZNK X k_z z0 sa fr mc ms) (hd_z : decode (Zmt k_z).2.1 pc = .ok (.bipush n_z, 2)) (hv_z : (Int8.ofInt n_z).toInt32 = v_z) (hp : pc + 2 = pc') (kk : ZN X ws l (.int v_z :: st) pc' ce sl) : ZN X ws l st pc ce sl := by
  intro H locs ls hP_z hD hS_z hl_z
  subst hp
  exact lv_bipush hX.1 hX.2.1 hd_z hv_z (kk H locs ls hP_z hD hS_z hl_z)
theorem Zn_si {n_z : Int} {v_z : Int32} (hX : ZNK X k_z z0 sa fr mc ms) (hd_z : decode (Zmt k_z).2.1 pc = .ok (.sipush n_z, 3)) (hv_z : (Int16.ofInt n_z).toInt32 = v_z) (hp : pc + 3 = pc') (kk : ZN X ws l (.int v_z :: st) pc' ce sl) : ZN X ws l st pc ce sl := by
  intro H locs ls hP_z hD hS_z hl_z
  subst hp
  exact lv_sipush hX.1 hX.2.1 hd_z hv_z (kk H locs ls hP_z hD hS_z hl_z)
theorem Zn_nu (hX : ZNK X k_z z0 sa fr mc ms) (hd_z : decode (Zmt k_z).2.1 pc = .ok (.aconst_null, 1)) (hp : pc + 1 = pc') (kk : ZN X ws l (.null :: st) pc' ce sl) : ZN X ws l st pc ce sl := by
  intro H locs ls hP_z hD hS_z hl_z
  subst hp
  exact lv_null hX.1 hX.2.1 hd_z (kk H locs ls hP_z hD hS_z hl_z)
theorem Zn_du {v_z : Value} (hX : ZNK X k_z z0 sa fr mc ms) (hd_z : decode (Zmt k_z).2.1 pc = .ok (.dup, 1)) (hv_z : v_z.category = 1) (hp : pc + 1 = pc') (kk : ZN X ws l (v_z :: v_z :: st) pc' ce sl) : ZN X ws l (v_z :: st) pc ce sl := by
  intro H locs ls hP_z hD hS_z hl_z
  subst hp
  exact lv_dup hX.1 hX.2.1 hd_z hv_z (kk H locs ls hP_z hD hS_z hl_z)
theorem Zn_oi {idx a_z i1_z i2_z i3 : Nat} (hX : ZNK X k_z z0 sa fr mc ms) (hd_z : decode (Zmt k_z).2.1 pc = .ok (.invokespecial idx, 3)) (w1_z : Zat i1_z = .methodLink (Zmt k_z).1.cls idx objectInit) (w2_z : Zat i2_z = .instanceMethod objectInit) (w3 : Zat i3 = .code objectInit ⟨#[0xb1]⟩ 1 none) (hf_z : 1 ≤ fr) (hst : (st.map fun v_z => v_z.category).sum ≤ 8) (hp : pc + 3 = pc') (kk : ZN X ws l st pc' ce sl) : ZN X ws l (.ref a_z :: st) pc ce sl := by
  intro H locs ls hP_z hD hS_z hl_z
  subst hp
  have hR := hX.2.2.2.2.2.2.2.2.2.1
  have hm_z := lv_room (m := zm X) (pc := pc) (ls := ls) (rest := .ref a_z :: st) hst
  refine W.objInit hX.1 hX.2.1 hX.2.2.1 (by rw [← w1_z]; exact hX.2.2.2.1 _ (Zat_tg i1_z)) (by rw [← w2_z]; exact hX.2.2.2.1 _ (Zat_tg i2_z)) (by rw [← w3]; exact hX.2.2.2.1 _ (Zat_tg i3)) rfl hl_z.1 rfl hd_z (by omega) (by omega) ?_
  exact kk H locs ls hP_z hD hS_z hl_z
theorem Zn_na {i1_z N : Nat} {n_z : Int32} (hX : ZNK X k_z z0 sa fr mc ms) (hd_z : decode (Zmt k_z).2.1 pc = .ok (.newarray .int, 2)) (w1_z : Zat i1_z = .arrayClass .int) (hn_z : ¬ n_z < 0) (hN : n_z.toNatClampNeg = N) (hby : N * componentBytes .int ≤ 536870912) (hc_z : ce + 1 = ce') (hs_z : sl + N = sl') (hc2 : ce' ≤ mc) (hs2 : sl' ≤ ms) (hp : pc + 2 = pc') (kk : ∀ a_z, ZN X (ws ++ [(a_z, eI (zcA X) N)]) l (.ref a_z :: st) pc' ce' sl') : ZN X ws l (.int n_z :: st) pc ce sl := by
  intro H locs ls hP_z hD hS_z hl_z
  subst hp hc_z hs_z
  have hR := hX.2.2.2.2.2.2.2.2.2.2
  refine va_newa (ty := .int) (a0 := (N, .inl (fun _ => 0))) hX.1 hX.2.1 (atype := .int) (by rw [show newarray.typeOf ArrayType.int = .int from rfl, ← w1_z]; exact hX.2.2.2.1 _ (Zat_tg i1_z)) rfl hX.2.2.2.2.1 hP_z hD hS_z hX.2.2.2.2.2.1 (fun _ => rfl) hn_z hN hby (by omega) (by omega) hd_z (fun a_z cA H1 hK1 hP1 hD1 hS1 => ?_)
  have e1_z := (hK1.2 4 _ rfl).2
  have e2_z := (hX.2.2.2.2.1.2 0 _ rfl).2
  have e3_z : cA = zcA X 0 := Option.some.inj (Eq.trans (Eq.symm e1_z) e2_z)
  subst e3_z
  exact kk a_z H1 locs ls hP1 hD1 hS1 hl_z
theorem Zn_nb {i1_z N : Nat} {n_z : Int32} (hX : ZNK X k_z z0 sa fr mc ms) (hd_z : decode (Zmt k_z).2.1 pc = .ok (.newarray .byte, 2)) (w1_z : Zat i1_z = .arrayClass .byte) (hn_z : ¬ n_z < 0) (hN : n_z.toNatClampNeg = N) (hby : N * componentBytes .byte ≤ 536870912) (hc_z : ce + 1 = ce') (hs_z : sl + N = sl') (hc2 : ce' ≤ mc) (hs2 : sl' ≤ ms) (hp : pc + 2 = pc') (kk : ∀ a_z, ZN X (ws ++ [(a_z, eB (zcA X) N)]) l (.ref a_z :: st) pc' ce' sl') : ZN X ws l (.int n_z :: st) pc ce sl := by
  intro H locs ls hP_z hD hS_z hl_z
  subst hp hc_z hs_z
  have hR := hX.2.2.2.2.2.2.2.2.2.2
  refine va_newa (ty := .byte) (a0 := (N, .inl (fun _ => 0))) hX.1 hX.2.1 (atype := .byte) (by rw [show newarray.typeOf ArrayType.byte = .byte from rfl, ← w1_z]; exact hX.2.2.2.1 _ (Zat_tg i1_z)) rfl hX.2.2.2.2.1 hP_z hD hS_z hX.2.2.2.2.2.1 (fun _ => rfl) hn_z hN hby (by omega) (by omega) hd_z (fun a_z cA H1 hK1 hP1 hD1 hS1 => ?_)
  have e1_z := (hK1.2 4 _ rfl).2
  have e2_z := (hX.2.2.2.2.1.2 1 _ rfl).2
  have e3_z : cA = zcA X 1 := Option.some.inj (Eq.trans (Eq.symm e1_z) e2_z)
  subst e3_z
  exact kk a_z H1 locs ls hP1 hD1 hS1 hl_z
theorem Zn_nr {idx i1_z N t : Nat} {C : String} {n_z : Int32} (hX : ZNK X k_z z0 sa fr mc ms) (hd_z : decode (Zmt k_z).2.1 pc = .ok (.anewarray idx, 3)) (ht_z : (t = 2 ∧ C = "KnitRiver$Text") ∨ (t = 3 ∧ C = "KnitRiver$Sheet")) (w1_z : Zat i1_z = .classLink (Zmt k_z).1.cls idx C) (hn_z : ¬ n_z < 0) (hN : n_z.toNatClampNeg = N) (hby : N * 4 ≤ 536870912) (hc_z : ce + 1 = ce') (hs_z : sl + N = sl') (hc2 : ce' ≤ mc) (hs2 : sl' ≤ ms) (hp : pc + 3 = pc') (kk : ∀ a_z, ZN X (ws ++ [(a_z, eR (zcA X) t N [])]) l (.ref a_z :: st) pc' ce' sl') : ZN X ws l (.int n_z :: st) pc ce sl := by
  intro H locs ls hP_z hD hS_z hl_z
  subst hp hc_z hs_z
  have hR := hX.2.2.2.2.2.2.2.2.2.2
  have hz_z := hX.2.2.2.2.2.2.2.1
  have hov : va_AO C (zs X) := by
    rcases ht_z with ⟨-, rfl⟩ | ⟨-, rfl⟩
    · exact hz_z.2.2.2.2.1
    · exact hz_z.2.2.2.2.2.1
  have hty : (Zty (zcA X))[t]? = some (zcA X t, .object C) := by
    rcases ht_z with ⟨rfl, rfl⟩ | ⟨rfl, rfl⟩ <;> rfl
  refine va_newq hX.1 hX.2.1 hX.2.2.1 (by rw [← w1_z]; exact hX.2.2.2.1 _ (Zat_tg i1_z)) hov hX.2.2.2.2.1 hP_z hD hS_z hX.2.2.2.2.2.1 hn_z hN hby (by omega) (by omega) hd_z (fun a_z cA H1 hK1 hP1 hD1 hS1 => ?_)
  obtain ⟨-, -, -, -, -, e1_z⟩ := (hK1.2 4 _ rfl).2
  obtain ⟨-, -, -, -, -, e2_z⟩ := (hX.2.2.2.2.1.2 t _ hty).2
  have e3_z : cA = zcA X t := Option.some.inj (Eq.trans (Eq.symm e1_z) e2_z)
  subst e3_z
  exact kk a_z H1 locs ls hP1 hD1 hS1 hl_z
def ZnB (c_z n_z : Nat) (fs : List Value) : Bool := (List.range n_z).all (fun j_z => decide (defaultValue (Zft c_z j_z) = vp_V fs j_z))
theorem Zn_nw {idx c_z i1_z i2_z i3 : Nat} {r_z : vw_C} {fs : List Value} (hX : ZNK X k_z z0 sa fr mc ms) (hd_z : decode (Zmt k_z).2.1 pc = .ok (.new idx, 3)) (hr_z : Zcl[c_z]? = some r_z) (w1_z : Zat i1_z = .classLink (Zmt k_z).1.cls idx r_z.1) (w2_z : Zat i2_z = .instantiable r_z.1 r_z.2.2) (w3 : Zat i3 = .initialized r_z.1) (hB : ZnB c_z r_z.2.2 fs = true) (hc_z : ce + 1 = ce') (hs_z : sl + r_z.2.2 = sl') (hc2 : ce' ≤ mc) (hs2 : sl' ≤ ms) (hp : pc + 3 = pc') (kk : ∀ a_z, ZN X (ws ++ [(a_z, eO c_z fs)]) l (.ref a_z :: st) pc' ce' sl') : ZN X ws l st pc ce sl := by
  intro H locs ls hP_z hD hS_z hl_z
  subst hp hc_z hs_z
  have hR := hX.2.2.2.2.2.2.2.2.2.2
  exact va_new hX.1 hX.2.1 hX.2.2.2.1 (Zcl_ws hr_z) (Zft c_z) (Zcl_ty hr_z) hX.2.2.1 (by rw [← w1_z]; exact hX.2.2.2.1 _ (Zat_tg i1_z)) (by rw [← w2_z]; exact hX.2.2.2.1 _ (Zat_tg i2_z)) (by rw [← w3]; exact hX.2.2.2.1 _ (Zat_tg i3)) hX.2.2.2.2.1 hP_z hD hS_z hX.2.2.2.2.2.1 hr_z (fun j_z hj_z => by have := List.all_eq_true.mp hB j_z (List.mem_range.mpr hj_z); exact of_decide_eq_true this) (by omega) (by omega) hd_z (fun a_z H1 hP1 hD1 hS1 => kk a_z H1 locs ls hP1 hD1 hS1 hl_z)
theorem Zn_pf {idx c_z i1_z o_z a_z kf : Nat} {r_z : vw_C} {fs : List Value} {v_z : Value} (hX : ZNK X k_z z0 sa fr mc ms) (hin : (zme X).name = "<init>") (hd_z : decode (Zmt k_z).2.1 pc = .ok (.putfield idx, 3)) (he_z : ws[o_z]? = some (a_z, eO c_z fs)) (hr_z : Zcl[c_z]? = some r_z) (hk_z : kf < r_z.2.2) (w1_z : Zat i1_z = .fieldLink (Zmt k_z).1.cls idx (r_z.2.1 kf).1 (r_z.2.1 kf).2.1 (r_z.2.1 kf).2.2.1) (hown : (r_z.2.1 kf).1 = (Zmt k_z).1.cls) (hn_z : narrow (Zft c_z kf) v_z = v_z) (hfit : fits (Zft c_z kf) v_z = true) (hlen : kf < fs.length) (hw_z : ws.set o_z (a_z, eO c_z (fs.set kf v_z)) = ws') (hp : pc + 3 = pc') (kk : ZN X ws' l st pc' ce sl) : ZN X ws l (v_z :: .ref a_z :: st) pc ce sl := by
  intro H locs ls hP_z hD hS_z hl_z
  subst hp hw_z
  cases hfin : (r_z.2.1 kf).2.2.2 with
  | false => exact va_put hX.1 hX.2.1 hX.2.2.2.1 (Zcl_ws hr_z) (Zft c_z) (Zcl_ty hr_z) (Zcl_nm hr_z) hX.2.2.1 hX.2.2.2.2.1 hP_z hD hS_z o_z he_z hr_z kf hk_z (by rw [← w1_z]; exact hX.2.2.2.1 _ (Zat_tg i1_z)) (fun _ q_z => q_z) hfin (Zcl_ty hr_z kf hk_z) hn_z hfit hlen hd_z (fun H1 locs1 hP1 hD1 hS1 => kk H1 locs1 ls hP1 hD1 hS1 hl_z)
  | true => exact va_putF hX.1 hX.2.1 hX.2.2.2.1 (Zcl_ws hr_z) (Zft c_z) (Zcl_ty hr_z) (Zcl_nm hr_z) hX.2.2.1 hX.2.2.2.2.1 hP_z hD hS_z o_z he_z hr_z kf hk_z (by rw [← w1_z]; exact hX.2.2.2.1 _ (Zat_tg i1_z)) (fun _ q_z => q_z) hfin hin hown (Zcl_ty hr_z kf hk_z) hn_z hfit hlen hd_z (fun H1 locs1 hP1 hD1 hS1 => kk H1 locs1 ls hP1 hD1 hS1 hl_z)
theorem Zn_gf {idx c_z i1_z o_z a_z kf : Nat} {r_z : vw_C} {fs : List Value} {v_z : Value} (hX : ZNK X k_z z0 sa fr mc ms) (hd_z : decode (Zmt k_z).2.1 pc = .ok (.getfield idx, 3)) (he_z : ws[o_z]? = some (a_z, eO c_z fs)) (hr_z : Zcl[c_z]? = some r_z) (hk_z : kf < r_z.2.2) (w1_z : Zat i1_z = .fieldLink (Zmt k_z).1.cls idx (r_z.2.1 kf).1 (r_z.2.1 kf).2.1 (r_z.2.1 kf).2.2.1) (hv_z : fs[kf]? = some v_z) (hp : pc + 3 = pc') (kk : ZN X ws l (v_z :: st) pc' ce sl) : ZN X ws l (.ref a_z :: st) pc ce sl := by
  intro H locs ls hP_z hD hS_z hl_z
  subst hp
  exact va_get hX.1 hX.2.1 hX.2.2.2.1 (Zcl_ws hr_z) hX.2.2.1 hX.2.2.2.2.1 hP_z o_z he_z hr_z kf hk_z (by rw [← w1_z]; exact hX.2.2.2.1 _ (Zat_tg i1_z)) (fun _ q_z => q_z) hv_z hd_z (kk H locs ls hP_z hD hS_z hl_z)
theorem Zn_ar {o_z t qk c_z n_z a_z v_z : Nat} {r_z : vw_C} {vs : List Value} {L : List Nat} {i_z : Int32} (hX : ZNK X k_z z0 sa fr mc ms) (hd_z : decode (Zmt k_z).2.1 pc = .ok (.aastore, 1)) (ha_z : ws[o_z]? = some (a_z, eR (zcA X) t n_z L)) (ht_z : (Zty (zcA X))[t]? = some (zcA X t, .object r_z.1)) (hv_z : ws[qk]? = some (v_z, eO c_z vs)) (hr_z : Zcl[c_z]? = some r_z) (hi_z : i_z.toNatClampNeg = L.length) (hin : vp_in i_z n_z) (hw_z : ws.set o_z (a_z, eR (zcA X) t n_z (L ++ [v_z])) = ws') (hp : pc + 1 = pc') (kk : ZN X ws' l st pc' ce sl) : ZN X ws l (.ref v_z :: .int i_z :: .ref a_z :: st) pc ce sl := by
  intro H locs ls hP_z hD hS_z hl_z
  subst hp hw_z
  have e_z : va_up (fun k_z => L[k_z]?) i_z.toNatClampNeg (some v_z) = fun k_z => (L ++ [v_z])[k_z]? := by
    funext j_z
    rw [hi_z]
    show (if j_z = L.length then some v_z else L[j_z]?) = (L ++ [v_z])[j_z]?
    by_cases q_z : j_z = L.length
    · rw [if_pos q_z, q_z]
      simp
    · rw [if_neg q_z]
      by_cases q2_z : j_z < L.length
      · rw [List.getElem?_append_left q2_z]
      · rw [List.getElem?_eq_none (by omega), List.getElem?_eq_none (by rw [List.length_append]; simp only [List.length_cons, List.length_nil]; omega)]
  refine va_astq hX.1 hX.2.1 hX.2.2.2.2.1 hP_z hD hS_z o_z t qk c_z ha_z ht_z hv_z hr_z hin hd_z (fun H1 locs1 hP1 hD1 hS1 => ?_)
  rw [e_z] at hP1 hD1
  exact kk H1 locs1 ls hP1 hD1 hS1 hl_z
theorem Zn_ia {o_z n_z a_z j_z : Nat} {f_z : Nat → Int32} {i_z x_z : Int32} (hX : ZNK X k_z z0 sa fr mc ms) (hd_z : decode (Zmt k_z).2.1 pc = .ok (.iastore, 1)) (ha_z : ws[o_z]? = some (a_z, .inl (zcA X 0, n_z, .inl f_z))) (hi_z : i_z.toNatClampNeg = j_z) (hin : vp_in i_z n_z) (hw_z : ws.set o_z (a_z, .inl (zcA X 0, n_z, .inl (upd f_z j_z x_z))) = ws') (hp : pc + 1 = pc') (kk : ZN X ws' l st pc' ce sl) : ZN X ws l (.int x_z :: .int i_z :: .ref a_z :: st) pc ce sl := by
  intro H locs ls hP_z hD hS_z hl_z
  subst hp hw_z hi_z
  exact va_iast hX.1 hX.2.1 hX.2.2.2.2.1 hP_z hD hS_z o_z 0 ha_z rfl hin hd_z (fun H1 locs1 hP1 hD1 hS1 => kk H1 locs1 ls hP1 hD1 hS1 hl_z)
theorem Zn_gs {idx i1_z : Nat} (hX : ZNK X k_z z0 sa fr mc ms) (hd_z : decode (Zmt k_z).2.1 pc = .ok (.getstatic idx, 3)) (w1_z : Zat i1_z = .fieldLink (Zmt k_z).1.cls idx "KnitRiver$Reach" "STITCHES" "[I") (hp : pc + 3 = pc') (kk : ZN X ws l (.ref sa :: st) pc' ce sl) : ZN X ws l st pc ce sl := by
  intro H locs ls hP_z hD hS_z hl_z
  subst hp
  have hz_z := hX.2.2.2.2.2.2.2.1
  exact va_gets hX.1 hX.2.1 (hz_z.1.narrow hX.2.2.2.2.2.2.1) hS_z hX.2.2.1 (by rw [← w1_z]; exact hX.2.2.2.1 _ (Zat_tg i1_z)) (fun _ q_z => q_z) hd_z (kk H locs ls hP_z hD hS_z hl_z)
theorem Zn_sl (hX : ZNK X k_z z0 sa fr mc ms) (hd_z : decode (Zmt k_z).2.1 pc = .ok (.arraylength, 1)) (hp : pc + 1 = pc') (kk : ZN X ws l (.int (nI 4) :: st) pc' ce sl) : ZN X ws l (.ref sa :: st) pc ce sl := by
  intro H locs ls hP_z hD hS_z hl_z
  subst hp
  have hz_z := hX.2.2.2.2.2.2.2.1
  obtain ⟨scr2, g1, g2, g3, g4, g5⟩ := hz_z.2.1.kept (hS_z.2.1 _ hz_z.2.1.lt (fun q_z => absurd (hX.2.2.2.2.2.2.1 _ q_z) (Nat.not_le.mpr hz_z.2.2.1)))
  exact W.alen (n := nI 4) hX.1 hX.2.1 g1 g2 g4.2 rfl rfl hd_z (kk H locs ls hP_z hD hS_z hl_z)
end ZNR
/-- A MAKER'S CONTRACT: method k_z, called on an object of class c_z that is as new: it returns, its object and what it made stand as Res says -/
def ZNC (k_z fr mc ms c_z : Nat) (fs : List Value) (Res : (Nat → ClassId) → Nat → (Nat → Nat) → va_W) : Prop :=
  ∀ (l : Launch) (D : va_G) (cA : Nat → ClassId) (h0_z sz z0 sa : Nat), z0 ≤ h0_z →
    Met l (Zmt k_z).1 (.code (Zmt k_z).1 (Zmt k_z).2.1 (Zmt k_z).2.2.1 (Zmt k_z).2.2.2 :: Ztg) { frames := fr, cells := mc, slots := ms, locals := 40 * fr } (va_Pc [.ref h0_z] (fun U => U.heap.size = sz ∧ va_P D Zcl [(h0_z, eO c_z fs)] U.heap ∧ va_K D Zcl (Zty cA) U ∧ Zst0 z0 sa U))
      (va_Qv (fun _ : Nat → Nat => True) (fun u_z t => va_P D Zcl (Res cA h0_z u_z) t.heap ∧ va_D (va_A [(h0_z, eO c_z fs)] sz) (Res cA h0_z u_z)) (va_A [(h0_z, eO c_z fs)] sz)) mc ms (va_A [(h0_z, eO c_z fs)] sz)
/-- the end of a_z maker -/
def ZNE (X : Zx) (k_z h0_z mc ms : Nat) (Res : (Nat → ClassId) → Nat → (Nat → Nat) → va_W) : Prop :=
  ∀ (u_z : Nat → Nat) (ws : va_W) (l : List (Nat × Value)) (pc : Nat), decode (Zmt k_z).2.1 pc = .ok (.return_, 1) → ws = Res (zcA X) h0_z u_z → ZN X ws l [] pc mc ms
theorem ZNC_of {k_z fr mc ms ci : Nat} {fs : List Value} {Res : (Nat → ClassId) → Nat → (Nat → Nat) → va_W} (hpl : k_z < ZmtL.length) (hret : (Zmt k_z).2.2.2 = none) (hnm : (Zmt k_z).1.name = "<init>") (hsl : 1 ≤ (Zmt k_z).2.2.1)
    (h_z : ∀ (X : Zx) (h0_z z0 sa : Nat), ZNK X k_z z0 sa fr mc ms → (zme X).name = "<init>" → ZNE X k_z h0_z mc ms Res → ZN X [(h0_z, eO ci fs)] [(0, .ref h0_z)] [] 0 0 0) : ZNC k_z fr mc ms ci fs Res := by
  intro l D cA h0_z sz z0 sa hz0
  refine Zmet (cc := (Zmt k_z).2.1) (maxL := (Zmt k_z).2.2.1) (ret := (Zmt k_z).2.2.2) (ZmtP_ok k_z hpl) rfl ?_
  intro p_z e_z s_z m_z args below meth c_z s₁ B hml hv_z
  obtain ⟨rfl, hsz, hP_z, hK, hst⟩ := hv_z
  have hts := atoms_spec (ws := .code (Zmt k_z).1 (Zmt k_z).2.1 (Zmt k_z).2.2.1 (Zmt k_z).2.2.2 :: Ztg) B.pre
  have hown : s_z.vm.findClass (Zmt k_z).1.cls = some m_z.cls := findClass_of_methodNamed B.named
  have hlocks := B.notSynchronized
  have hr_z := B.returns
  have hin : meth.name = "<init>" := (name_of_methodNamed B.named B.method).1.trans hnm
  have hD : va_D (va_A [(h0_z, eO ci fs)] sz) [(h0_z, eO ci fs)] := by
    refine ⟨fun i_z j_z p_z q_z hi_z hj_z _ => ?_, fun i_z q_z hi_z => ?_⟩
    · have h1_z := (List.getElem?_eq_some_iff.mp hi_z).1
      have h2_z := (List.getElem?_eq_some_iff.mp hj_z).1
      simp only [List.length_cons, List.length_nil] at h1_z h2_z
      omega
    · exact va_A.in hi_z
  have key := h_z (p_z, l, e_z, { frames := fr, cells := mc, slots := ms, locals := 40 * fr }, s_z, m_z, ([.ref h0_z] : List Value).toArray, below, meth, c_z, D, fun _ => 0, cA, va_A [(h0_z, eO ci fs)] sz, (0, fun _ => 0), 0, 0, MQ below (va_Qv (fun _ : Nat → Nat => True) (fun u_z t => va_P D Zcl (Res cA h0_z u_z) t.heap ∧ va_D (va_A [(h0_z, eO ci fs)] sz) (Res cA h0_z u_z)) (va_A [(h0_z, eO ci fs)] sz)) ([.ref h0_z] : List Value).toArray s_z mc ms (va_A [(h0_z, eO ci fs)] sz)) h0_z z0 sa ?_ hin ?_
  · have hl_z := lv_entry ([.ref h0_z] : List Value) (n := (Zmt k_z).2.2.1) hsl
    rw [lg_entry_eq]
    exact key s_z.heap [] _ hP_z hD va_S.rf (by show lv_has _ c_z.maxLocals _; rw [hml]; exact hl_z)
  · refine ⟨B.exec, B.bytes, hown, fun w_z hw_z => hts w_z (List.mem_cons_of_mem _ hw_z), hK, fun a_z ha_z => Or.inr (by rw [← hsz]; exact ha_z), fun a_z ha_z => ?_, hst, hml, ⟨Nat.le_refl _, Nat.le_refl _⟩, Nat.le_refl _, Nat.le_refl _⟩
    rcases ha_z with ⟨i_z, e2_z, hi_z⟩ | ha_z
    · have h1_z := (List.getElem?_eq_some_iff.mp hi_z).1
      simp only [List.length_cons, List.length_nil] at h1_z
      obtain rfl : i_z = 0 := by omega
      cases hi_z
      exact hz0
    · exact Nat.le_trans (by have := hst.2.2.2.1; rw [hsz] at this; exact this) ha_z
  · intro u_z ws l2 pc hd_z hw_z H locs ls hP1 hD1 hS1 hl1
    subst hw_z
    exact W.vret B.exec B.bytes (by show meth.sig.returnType = _; rw [hr_z, hret]) (fun t ht_z hW => ⟨⟨u_z, rfl, trivial, by rw [ht_z]; exact hP1, hD1⟩, hS1.F ht_z⟩) hS1.2.2 hd_z hlocks
theorem va_nd_range : ∀ n_z, va_nd (List.range n_z) = true := by
  have key : ∀ (l : List Nat), l.Nodup → va_nd l = true := by
    intro l
    induction l with
    | nil => intro _; rfl
    | cons a_z l ih_z =>
      intro h_z
      obtain ⟨h1_z, h2_z⟩ := List.nodup_cons.mp h_z
      show (decide (a_z ∉ l) && va_nd l) = true
      rw [ih_z h2_z, decide_eq_true h1_z]
      rfl
  exact fun n_z => key _ List.nodup_range
theorem Zrange_id (a_z b_z : va_W) : (List.range a_z.length).map (fun i_z => (a_z ++ b_z)[i_z]?) = a_z.map some := by
  apply List.ext_getElem?
  intro i_z
  simp only [List.getElem?_map]
  by_cases h_z : i_z < a_z.length
  · rw [List.getElem?_range h_z]
    simp only [Option.map_some]
    rw [List.getElem?_append_left h_z]
    simp [h_z]
  · rw [List.getElem?_eq_none (by simp; omega), List.getElem?_eq_none (by omega)]
    rfl
/-- the call of a_z maker on the newest object -/
theorem Zn_ct {X : Zx} {k_z z0 sa fr mc ms : Nat} {ws : va_W} {l : List (Nat × Value)} {st : List Value} {pc pc' ce ce' sl sl' : Nat} {r_z fr1 mc1 ms1 c_z idx a_z i1_z i2_z i3 i4 : Nat} {fs : List Value} {Res : (Nat → ClassId) → Nat → (Nat → Nat) → va_W}
    (hX : ZNK X k_z z0 sa fr mc ms) (hC : ZNC r_z fr1 mc1 ms1 c_z fs Res) (hd_z : decode (Zmt k_z).2.1 pc = .ok (.invokespecial idx, 3))
    (w1_z : Zat i1_z = .methodLink (Zmt k_z).1.cls idx (Zmt r_z).1 ∨ Zan i1_z = .methodLinkNest (Zmt k_z).1.cls idx (Zmt r_z).1 "KnitRiver") (w2_z : Zat i2_z = .instanceMethod (Zmt r_z).1) (w3 : Zat i3 = .initialized (Zmt r_z).1.cls) (w4 : Zat i4 = .code (Zmt r_z).1 (Zmt r_z).2.1 (Zmt r_z).2.2.1 (Zmt r_z).2.2.2)
    (hr_z : r_z < ZmtL.length) (hnm : (Zmt r_z).1.name = "<init>") (hret : (Zmt r_z).2.2.2 = none) (hna : Zna r_z = 0) (hfr : fr1 + 1 ≤ fr) (hst : (st.map fun v_z => v_z.category).sum ≤ 8) (hc_z : ce + mc1 = ce') (hs_z : sl + ms1 = sl') (hc2 : ce' ≤ mc) (hs2 : sl' ≤ ms) (hp : pc + 3 = pc')
    (kk : ∀ u_z, ZN X (ws ++ Res (zcA X) a_z u_z) l st pc' ce' sl') : ZN X (ws ++ [(a_z, eO c_z fs)]) l (.ref a_z :: st) pc ce sl := by
  intro H locs ls hP_z hD hS_z hl_z
  subst hp hc_z hs_z
  have hn_z : (ws ++ [(a_z, eO c_z fs)])[ws.length]? = some (a_z, eO c_z fs) := by simp
  have hs1 : [ws.length].map (fun i_z => (ws ++ [(a_z, eO c_z fs)])[i_z]?) = [(a_z, eO c_z fs)].map some := by simp
  have hPc : va_P (zD X) Zcl [(a_z, eO c_z fs)] H := hP_z.sub [ws.length] (by simp)
  have hF := va_free (wc := [(a_z, eO c_z fs)]) hD hS_z hX.2.2.2.2.2.1 [ws.length] hs1
  have ha_z : zA X a_z := hD.2 ws.length _ hn_z
  have hz0 : z0 ≤ a_z := hX.2.2.2.2.2.2.1 a_z ha_z
  obtain ⟨h6_z, h7_z, h8_z, h5_z⟩ := Zmt_at hr_z
  rw [hna] at h8_z
  have hfit := hX.2.2.2.2.2.2.2.2.2
  have hM := hC (zl X) (zD X) (zcA X) a_z H.size z0 sa hz0
  have hpre : PreS (zs X) H (va_Pc [.ref a_z] (fun U => U.heap.size = H.size ∧ va_P (zD X) Zcl [(a_z, eO c_z fs)] U.heap ∧ va_K (zD X) Zcl (Zty (zcA X)) U ∧ Zst0 z0 sa U)) [.ref a_z] := by
    refine ⟨fun b_z U g_z mk q_z => ?_, fun U hU hW => ⟨rfl, by rw [hU], by rw [hU]; exact hPc, va_K.moved hW.alike hX.2.2.2.2.1, hX.2.2.2.2.2.2.2.1.at hS_z hX.2.2.2.2.2.2.1 hU hW⟩⟩
    obtain ⟨q1_z, q2_z, q3, q4, q5⟩ := q_z
    exact ⟨q1_z, q2_z, q3, va_K.moved (u := U) (U := U.calling g_z mk b_z) (Vm.Alike.refl U.vm) q4, q5.blind⟩
  have hR : fr1 + 1 ≤ (zR X).frames ∧ 8 + ((Zmt r_z).2.2.1 + 11) + 40 * fr1 ≤ (zR X).locals := by
    omega
  have g2 : (Cond.instanceMethod (Zmt r_z).1).before (za X) (zs X) = true := by rw [← w2_z]; exact hX.2.2.2.1 _ (Zat_tg i2_z)
  have g3 : (Cond.initialized (Zmt r_z).1.cls).before (za X) (zs X) = true := by rw [← w3]; exact hX.2.2.2.1 _ (Zat_tg i3)
  have g4 : Cond.code (Zmt r_z).1 (Zmt r_z).2.1 (Zmt r_z).2.2.1 (Zmt r_z).2.2.2 ∈ Ztg := by rw [← w4]; exact Zat_tg i4
  rw [hret] at hM g4
  have hrun : va_Run (zp X) (zl X) (ze X) (zR X) (zs X) (zm X) (za X) (zb X) (zme X) (zc X) H locs ce sl mc1 ms1 (F0 (zm X) pc ls (.ref a_z :: st)) st (va_Qv (fun _ : Nat → Nat => True) (fun u_z t => va_P (zD X) Zcl (Res (zcA X) a_z u_z) t.heap ∧ va_D (va_A [(a_z, eO c_z fs)] H.size) (Res (zcA X) a_z u_z)) (va_A [(a_z, eO c_z fs)] H.size) ([.ref a_z] : List Value).toArray) (va_A [(a_z, eO c_z fs)] H.size) := by
    rcases w1_z with w1_z | w1_z
    · exact va_runI (As := []) (rest := st) ⟨hX.1, rfl, rfl, hX.2.2.1, hX.2.2.2.1⟩ hM (cwI 0 hX.2.2.2.1 (Zgood g4) rfl rfl rfl g3 (by rw [← w1_z]; exact hX.2.2.2.1 _ (Zat_tg i1_z)) g2 hnm ⟨h6_z, h7_z, h8_z⟩ hR) hpre rfl rfl hl_z.1 rfl (lv_room hst) (by rw [hX.2.1]; exact hd_z) ⟨by omega, by omega⟩
    · exact va_runIN (As := []) (rest := st) ⟨hX.1, rfl, rfl, hX.2.2.1, hX.2.2.2.1⟩ hM ⟨va_cnB 0 hX.2.2.2.1 (Zgood g4) rfl rfl rfl (by have := hX.2.2.2.2.2.2.2.1.2.2.2.2.2.2 _ (Zan_tg i1_z); rw [w1_z] at this; exact this) g3 ⟨h6_z, h7_z, h8_z⟩ hR, hnm, g2⟩ hpre rfl rfl hl_z.1 rfl (lv_room hst) (by rw [hX.2.1]; exact hd_z) ⟨by omega, by omega⟩
  refine va_callv hrun hS_z (fun q_z _ h_z => hF q_z h_z) hF (fun u_z t H1 locs1 ht_z hvm _ hB hz1 hk1 hS1 => ?_)
  obtain ⟨hP1, hD1⟩ := hB
  rw [ht_z] at hP1
  obtain ⟨hP2, hD2⟩ := va_join (wr := ws) (w1 := Res (zcA X) a_z u_z) hP_z hD [ws.length] (List.range ws.length) hs1 (Zrange_id ws _) (va_nd_range _) (fun i_z hi_z h_z => by
    have := List.mem_range.mp hi_z
    simp only [List.mem_singleton] at h_z
    omega) hk1 hF hP1 hD1
  exact kk u_z H1 locs1 ls hP2 hD2 hS1 hl_z
