theorem Zinst : ∀ (c_z : Nat) (q_z : vw_C), Zcl[c_z]? = some q_z → Cond.instantiable q_z.1 q_z.2.2 ∈ Ztg := by
  intro c_z q_z h_z
  match c_z, h_z with
  | 0, h_z => cases h_z; exact (Zat_tg 143)
  | 1, h_z => cases h_z; exact (Zat_tg 151)
  | 2, h_z => cases h_z; exact (Zat_tg 158)
  | 3, h_z => cases h_z; exact (Zat_tg 259)
  | 4, h_z => cases h_z; exact (Zat_tg 287)
  | 5, h_z => cases h_z; exact (Zat_tg 312)
  | 6, h_z => cases h_z; exact (Zat_tg 335)
  | 7, h_z => cases h_z; exact (Zat_tg 389)
  | 8, h_z => cases h_z; exact (Zat_tg 906)
  | c_z + 9, h_z => simp [Zcl] at h_z
theorem Zknow {s_z : State} {args : Array Value} (hts : ∀ w_z ∈ Ztg, w_z.before args s_z = true) : ∃ D : va_G, ∀ (c_z : Nat) (q_z : vw_C), Zcl[c_z]? = some q_z → u_Kn s_z q_z.1 q_z.2.1 q_z.2.2 (D.1 c_z) (D.2 c_z) := by
  have key : ∀ c_z : Nat, ∃ (a_z : ClassId) (b_z : Nat → Nat), ∀ q_z, Zcl[c_z]? = some q_z → u_Kn s_z q_z.1 q_z.2.1 q_z.2.2 a_z b_z := by
    intro c_z
    cases hq_z : Zcl[c_z]? with
    | none => exact ⟨0, fun _ => 0, fun q_z h_z => by cases h_z⟩
    | some q_z =>
      obtain ⟨a_z, b_z, h_z⟩ := u_known hts (Zcl_ws hq_z) (hts _ (Zinst c_z q_z hq_z))
      exact ⟨a_z, b_z, fun q2_z h2_z => by cases h2_z; exact h_z⟩
  exact ⟨(fun c_z => (key c_z).choose, fun c_z => (key c_z).choose_spec.choose), fun c_z q_z hq_z => (key c_z).choose_spec.choose_spec q_z hq_z⟩
theorem Zkinds {s_z : State} {args : Array Value} (hts : ∀ w_z ∈ lw_tbl, w_z.before args s_z = true) : ∃ cA : Nat → ClassId, ∀ (k_z : Nat) (q_z : ClassId × FieldType), (Zty cA)[k_z]? = some q_z → ArrOfT s_z q_z.1 q_z.2 ∧ va_RA s_z q_z.1 q_z.2 := by
  obtain ⟨c0_z, k0, p0, a1_z, a2_z, a3⟩ := Cond.arrayClass_spec (hts (.arrayClass .int) (Zc_get (h := 181) rfl))
  obtain ⟨c1_z, k1_z, p1, b1_z, b2_z, b3⟩ := Cond.arrayClass_spec (hts (.arrayClass .byte) (Zc_get (h := 182) rfl))
  obtain ⟨p2, c2, k2_z, d1, -, d3, d4, d5_z⟩ := Cond.arrayOver_spec (hts (.arrayOver (.object "KnitRiver$Text")) (Zc_get (h := 157) rfl))
  obtain ⟨p3, c3, k3, e1_z, -, e3_z, e4, e5⟩ := Cond.arrayOver_spec (hts (.arrayOver (.object "KnitRiver$Sheet")) (Zc_get (h := 388) rfl))
  refine ⟨fun t => match t with | 0 => c0_z | 1 => c1_z | 2 => c2 | _ => c3, ?_⟩
  intro k_z q_z hk_z
  match k_z, hk_z with
  | 0, hk_z => cases hk_z; exact ⟨fun N z_z => ⟨(fun j_z h_z => by cases h_z), k0, a2_z, p0, a3⟩, a1_z⟩
  | 1, hk_z => cases hk_z; exact ⟨fun N z_z => ⟨(fun j_z h_z => by cases h_z), k1_z, b2_z, p1, b3⟩, b1_z⟩
  | 2, hk_z => cases hk_z; exact ⟨fun N z_z => ⟨(fun j_z h_z => by cases h_z), k2_z, d3, p2, d4⟩, k2_z, p2, d3, d4, d1, d5_z⟩
  | 3, hk_z => cases hk_z; exact ⟨fun N z_z => ⟨(fun j_z h_z => by cases h_z), k3, e3_z, p3, e4⟩, k3, p3, e3_z, e4, e1_z, e5⟩
  | k_z + 4, hk_z => simp [Zty] at hk_z
/-- a_z row_z of numbers that stands in a_z static, as the start has it -/
theorem Zstat {args : Array Value} {s_z : State} {C n_z d_z : String} {ty : FieldType} {N : Nat} {f_z : Nat → Int32} (hl_z : (Cond.laysStatic C n_z d_z).before args s_z = true) (hini : (Cond.initialized C).before args s_z = true) (hN : N < 2 ^ 31) (harr : (Cond.arrayOf (.static C n_z d_z) ty).before args s_z = true) (hlen : (Cond.eq (.length (.static C n_z d_z)) (.int (Int32.ofNat N))).before args s_z = true)
    (hel : ∀ j_z, j_z < N → (Cond.eq (.elem (.static C n_z d_z) (.int (Int32.ofNat j_z))) (.int (f_z j_z))).before args s_z = true) : ∃ t, t < s_z.heap.size ∧ Zoa t ty N f_z s_z s_z.heap ∧ va_Z C n_z d_z (.ref t) (fun a_z => s_z.heap.size ≤ a_z) s_z s_z.heap := by
  obtain ⟨t, ht_z, cell, g1, g2, g3, g4, g5, g6, g7⟩ := va_Tof (f := fun j_z => Value.int (f_z j_z)) (A := fun a_z => s_z.heap.size ≤ a_z) hN harr (va_eqt hlen) (fun j_z hj_z => va_eqt (hel j_z hj_z)) (fun a_z ha_z => Nat.not_le.mpr ha_z)
  exact ⟨t, (Array.getElem?_eq_some_iff.mp g1).1, ⟨cell, g1, g2, g3, ⟨g4, g5⟩, g6⟩, va_Zref hl_z hini ht_z (fun a_z ha_z => Nat.not_le.mpr ha_z)⟩
set_option maxRecDepth 100000 in
theorem Zstat100 {args : Array Value} {s_z : State} (hts : ∀ w_z ∈ lw_tbl, w_z.before args s_z = true) (hgv : (Jvm.Cond.and given_1 narrow_1).before args s_z = true) : ∃ t, t < s_z.heap.size ∧ (∀ sc q_z, ZoL sc 100 = some q_z → Zoa t q_z.1 q_z.2.1 q_z.2.2 s_z s_z.heap) ∧ ∀ q_z, ZstL 100 = some q_z → va_Z q_z.1 q_z.2.1 q_z.2.2 (.ref t) (fun a_z => s_z.heap.size ≤ a_z) s_z s_z.heap := by
  have hs_z := flat_of_before _ hgv
  obtain ⟨t, h1_z, h2_z, h3_z⟩ := Zstat (ty := .int) (N := 4) (f_z := ((ZoL (0, fun _ => 0) 100).getD (.int, 0, fun _ => 0)).2.2) (hts (.laysStatic "KnitRiver$Reach" "STITCHES" "[I") (Zc_get (h := 318) rfl)) (hts (.initialized "KnitRiver$Reach") (Zc_get (h := 134) rfl)) (by decide) (hs_z (.arrayOf (.static "KnitRiver$Reach" "STITCHES" "[I") .int) (by decide +kernel)) (hs_z (.eq (.length (.static "KnitRiver$Reach" "STITCHES" "[I")) (.int (Int32.ofNat 4))) (by decide +kernel))
    (fun j_z hj_z => hs_z (.eq (.elem (.static "KnitRiver$Reach" "STITCHES" "[I") (.int (Int32.ofNat j_z))) (.int (((ZoL (0, fun _ => 0) 100).getD (.int, 0, fun _ => 0)).2.2 j_z))) (by
      have key : ∀ j_z, j_z < 4 → Cond.eq (.elem (.static "KnitRiver$Reach" "STITCHES" "[I") (.int (Int32.ofNat j_z))) (.int (((ZoL (0, fun _ => 0) 100).getD (.int, 0, fun _ => 0)).2.2 j_z)) ∈ flatC (Jvm.Cond.and given_1 narrow_1) := by decide +kernel
      exact key j_z hj_z))
  exact ⟨t, h1_z, fun sc q_z hq_z => by cases hq_z; exact h2_z, fun q_z hq_z => by cases hq_z; exact h3_z⟩
set_option maxRecDepth 100000 in
theorem Zstat101 {args : Array Value} {s_z : State} (hts : ∀ w_z ∈ lw_tbl, w_z.before args s_z = true) (hgv : (Jvm.Cond.and given_1 narrow_1).before args s_z = true) : ∃ t, t < s_z.heap.size ∧ (∀ sc q_z, ZoL sc 101 = some q_z → Zoa t q_z.1 q_z.2.1 q_z.2.2 s_z s_z.heap) ∧ ∀ q_z, ZstL 101 = some q_z → va_Z q_z.1 q_z.2.1 q_z.2.2 (.ref t) (fun a_z => s_z.heap.size ≤ a_z) s_z s_z.heap := by
  have hs_z := flat_of_before _ hgv
  obtain ⟨t, h1_z, h2_z, h3_z⟩ := Zstat (ty := .int) (N := 7) (f_z := ((ZoL (0, fun _ => 0) 101).getD (.int, 0, fun _ => 0)).2.2) (hts (.laysStatic "KnitRiver$Kinds" "ABOVE" "[I") (Zc_get (h := 528) rfl)) (hts (.initialized "KnitRiver$Kinds") (Zc_get (h := 138) rfl)) (by decide) (hs_z (.arrayOf (.static "KnitRiver$Kinds" "ABOVE" "[I") .int) (by decide +kernel)) (hs_z (.eq (.length (.static "KnitRiver$Kinds" "ABOVE" "[I")) (.int (Int32.ofNat 7))) (by decide +kernel))
    (fun j_z hj_z => hs_z (.eq (.elem (.static "KnitRiver$Kinds" "ABOVE" "[I") (.int (Int32.ofNat j_z))) (.int (((ZoL (0, fun _ => 0) 101).getD (.int, 0, fun _ => 0)).2.2 j_z))) (by
      have key : ∀ j_z, j_z < 7 → Cond.eq (.elem (.static "KnitRiver$Kinds" "ABOVE" "[I") (.int (Int32.ofNat j_z))) (.int (((ZoL (0, fun _ => 0) 101).getD (.int, 0, fun _ => 0)).2.2 j_z)) ∈ flatC (Jvm.Cond.and given_1 narrow_1) := by decide +kernel
      exact key j_z hj_z))
  exact ⟨t, h1_z, fun sc q_z hq_z => by cases hq_z; exact h2_z, fun q_z hq_z => by cases hq_z; exact h3_z⟩
set_option maxRecDepth 100000 in
theorem Zstat102 {args : Array Value} {s_z : State} (hts : ∀ w_z ∈ lw_tbl, w_z.before args s_z = true) (hgv : (Jvm.Cond.and given_1 narrow_1).before args s_z = true) : ∃ t, t < s_z.heap.size ∧ (∀ sc q_z, ZoL sc 102 = some q_z → Zoa t q_z.1 q_z.2.1 q_z.2.2 s_z s_z.heap) ∧ ∀ q_z, ZstL 102 = some q_z → va_Z q_z.1 q_z.2.1 q_z.2.2 (.ref t) (fun a_z => s_z.heap.size ≤ a_z) s_z s_z.heap := by
  have hs_z := flat_of_before _ hgv
  obtain ⟨t, h1_z, h2_z, h3_z⟩ := Zstat (ty := .char) (N := 6) (f_z := ((ZoL (0, fun _ => 0) 102).getD (.int, 0, fun _ => 0)).2.2) (hts (.laysStatic "KnitRiver$Reader" "NAMES" "[C") (Zc_get (h := 607) rfl)) (hts (.initialized "KnitRiver$Reader") (Zc_get (h := 132) rfl)) (by decide) (hs_z (.arrayOf (.static "KnitRiver$Reader" "NAMES" "[C") .char) (by decide +kernel)) (hs_z (.eq (.length (.static "KnitRiver$Reader" "NAMES" "[C")) (.int (Int32.ofNat 6))) (by decide +kernel))
    (fun j_z hj_z => hs_z (.eq (.elem (.static "KnitRiver$Reader" "NAMES" "[C") (.int (Int32.ofNat j_z))) (.int (((ZoL (0, fun _ => 0) 102).getD (.int, 0, fun _ => 0)).2.2 j_z))) (by
      have key : ∀ j_z, j_z < 6 → Cond.eq (.elem (.static "KnitRiver$Reader" "NAMES" "[C") (.int (Int32.ofNat j_z))) (.int (((ZoL (0, fun _ => 0) 102).getD (.int, 0, fun _ => 0)).2.2 j_z)) ∈ flatC (Jvm.Cond.and given_1 narrow_1) := by decide +kernel
      exact key j_z hj_z))
  exact ⟨t, h1_z, fun sc q_z hq_z => by cases hq_z; exact h2_z, fun q_z hq_z => by cases hq_z; exact h3_z⟩
set_option maxRecDepth 100000 in
theorem Zstat103 {args : Array Value} {s_z : State} (hts : ∀ w_z ∈ lw_tbl, w_z.before args s_z = true) (hgv : (Jvm.Cond.and given_1 narrow_1).before args s_z = true) : ∃ t, t < s_z.heap.size ∧ (∀ sc q_z, ZoL sc 103 = some q_z → Zoa t q_z.1 q_z.2.1 q_z.2.2 s_z s_z.heap) ∧ ∀ q_z, ZstL 103 = some q_z → va_Z q_z.1 q_z.2.1 q_z.2.2 (.ref t) (fun a_z => s_z.heap.size ≤ a_z) s_z s_z.heap := by
  have hs_z := flat_of_before _ hgv
  obtain ⟨t, h1_z, h2_z, h3_z⟩ := Zstat (ty := .int) (N := 28) (f_z := ((ZoL (0, fun _ => 0) 103).getD (.int, 0, fun _ => 0)).2.2) (hts (.laysStatic "KnitRiver$Voices" "BODIES" "[I") (Zc_get (h := 802) rfl)) (hts (.initialized "KnitRiver$Voices") (Zc_get (h := 135) rfl)) (by decide) (hs_z (.arrayOf (.static "KnitRiver$Voices" "BODIES" "[I") .int) (by decide +kernel)) (hs_z (.eq (.length (.static "KnitRiver$Voices" "BODIES" "[I")) (.int (Int32.ofNat 28))) (by decide +kernel))
    (fun j_z hj_z => hs_z (.eq (.elem (.static "KnitRiver$Voices" "BODIES" "[I") (.int (Int32.ofNat j_z))) (.int (((ZoL (0, fun _ => 0) 103).getD (.int, 0, fun _ => 0)).2.2 j_z))) (by
      have key : ∀ j_z, j_z < 28 → Cond.eq (.elem (.static "KnitRiver$Voices" "BODIES" "[I") (.int (Int32.ofNat j_z))) (.int (((ZoL (0, fun _ => 0) 103).getD (.int, 0, fun _ => 0)).2.2 j_z)) ∈ flatC (Jvm.Cond.and given_1 narrow_1) := by decide +kernel
      exact key j_z hj_z))
  exact ⟨t, h1_z, fun sc q_z hq_z => by cases hq_z; exact h2_z, fun q_z hq_z => by cases hq_z; exact h3_z⟩
/-- the memory behind the makers -/
def Zr0 : Nat → Int32 := fun k_z => match k_z with
  | 6 => nI 200
  | 10 => nI 1
  | _ => 0
def Zw0 : Nat → Int32 := fun k_z => match k_z with
  | 3 => -(nI 1)
  | _ => 0
def Zm0 : Nat → Int32 := upd (upd (fun _ => 0) 4 (nI 1)) 0 (nI 200)
def Zo0 : Nat → Int32 := fun _ => 0
def ZM0 : Zmem := fun o_z => match o_z with
  | 1 => Zr0
  | 17 => Zr0
  | 38 => Zw0
  | 54 => Zm0
  | _ => Zo0
theorem Zm0_o {j_z : Nat} (h0_z : j_z ≠ 0) (h4_z : j_z ≠ 4) : Zm0 j_z = nI 0 := by
  unfold Zm0
  rw [pk_un h0_z, pk_un h4_z]
  rfl
theorem Ztx0 (u_z : Nat) : Ztx Zm0 u_z := ⟨0, Nat.zero_le _, Zm0_o (by omega) (by omega), fun q_z => absurd q_z (by decide)⟩
theorem Zct0 {t u_z : Nat} (h_z : ZM0 t 0 = nI 0) (h2_z : ZM0 t 2 = nI 0) : Zct ZM0 t u_z Zm0 := ⟨0, Nat.zero_le _, Zm0_o (by omega) (by omega), ⟨0, Nat.zero_le _, h2_z⟩, Or.inr ⟨rfl, h_z⟩⟩
theorem Zgl0 : Zgl ZM0 := by
  refine ⟨⟨⟨⟨rfl, rfl, rfl, rfl, rfl, rfl, rfl, rfl⟩, fun i_z hi_z => ⟨?_, ?_, ?_, ?_, ?_⟩, fun i_z hi_z => ?_, fun i_z hi_z => ?_, Zct0 rfl rfl, Zct0 rfl rfl⟩, ⟨⟨0, Nat.zero_le _, rfl, fun i_z hi_z => absurd hi_z (Nat.not_lt_zero _)⟩, ⟨⟨200, by decide, rfl⟩, ⟨0, by decide, rfl⟩, ⟨0, by decide, rfl⟩, ⟨0, by decide, rfl⟩, ⟨0, by decide, rfl⟩, ⟨0, by decide, rfl⟩⟩, fun i_z hi_z => ⟨0, by decide, Zm0_o (by omega) (by omega)⟩, Ztx0 0, Ztx0 1⟩⟩, ⟨rfl, fun q_z => absurd rfl q_z⟩, ⟨fun t ht_z => ?_, fun t ht_z => ⟨Or.inl rfl, 0, by decide, rfl⟩⟩, ⟨0, by decide, rfl⟩, ⟨0, by decide, rfl⟩⟩
  · exact (Zm0_o (by omega) (by omega)).symm
  · exact (Zm0_o (by omega) (by omega)).symm
  · exact (Zm0_o (by omega) (by omega)).symm
  · exact (Zm0_o (by omega) (by omega)).symm
  · exact (Zm0_o (by omega) (by omega)).symm
  · show ZM0 7 i_z = Zsb (Zm0 (334 + i_z)).toNatClampNeg
    rw [Zm0_o (by omega) (by omega)]
    exact (show (0 : Int32) = Zsb (nI 0).toNatClampNeg by decide)
  · exact (Zm0_o (by omega) (by omega)).symm
  · rcases (show t = 0 ∨ t = 1 ∨ t = 2 ∨ t = 3 by omega) with rfl | rfl | rfl | rfl <;> exact ⟨rfl, rfl, fun _ _ => rfl⟩
theorem Zce_r (ad : Nat → Nat) (L : List (Nat × Nat)) : (fun k_z : Nat => (L[k_z]?).map (fun j_z : Nat × Nat => ad j_z.2)) = fun k_z : Nat => (L.map (fun j_z : Nat × Nat => ad j_z.2))[k_z]? := by
  funext k_z
  rw [List.getElem?_map]
/-- a_z cell, its references by a_z list -/
def Zcf (ad : Nat → Nat) (cA : Nat → ClassId) (f_z : Nat → Int32) (q_z : Nat × Nat × List (Nat × Nat)) : va_E := match q_z.1 with
  | 0 => .inl (cA 0, q_z.2.1, .inl f_z)
  | 1 => .inl (cA 1, q_z.2.1, .inl f_z)
  | 2 => eR cA 2 q_z.2.1 (q_z.2.2.map (fun j_z => ad j_z.2))
  | 3 => eR cA 3 q_z.2.1 (q_z.2.2.map (fun j_z => ad j_z.2))
  | _ => .inr (q_z.2.1, Zfs ad f_z 0 q_z.2.2)
theorem Zce_f (ad : Nat → Nat) (cA : Nat → ClassId) (f_z : Nat → Int32) (q_z : Nat × Nat × List (Nat × Nat)) : Zce ad cA f_z q_z = Zcf ad cA f_z q_z := by
  obtain ⟨a_z, n_z, L⟩ := q_z
  match a_z with
  | 0 => rfl
  | 1 => rfl
  | 2 => exact congrArg (fun g_z => (Sum.inl (cA 2, n_z, .inr (.inr (.inr (.inr g_z)))) : va_E)) (Zce_r ad L)
  | 3 => exact congrArg (fun g_z => (Sum.inl (cA 3, n_z, .inr (.inr (.inr (.inr g_z)))) : va_E)) (Zce_r ad L)
  | a_z + 4 => rfl
def ZadL (L : List Nat) (b_z t0 t1 t2 t3 : Nat) : Nat → Nat := fun o_z => match o_z with
  | 99 => b_z
  | 100 => t0
  | 101 => t1
  | 102 => t2
  | 103 => t3
  | o_z => L.getD o_z 0
set_option maxRecDepth 100000 in
set_option maxHeartbeats 8000000 in
theorem Zws0 (cA : Nat → ClassId) (b_z t0 t1 t2 t3 a_z d_z : Nat) (u_z v_z : Nat → Nat) : Zws (ZadL [a_z, u_z 0, u_z 1, u_z 2, u_z 3, u_z 4, u_z 5, u_z 6, u_z 7, u_z 8, u_z 9, u_z 10, u_z 11, u_z 12, u_z 13, u_z 14, u_z 15, u_z 16, u_z 17, u_z 18, u_z 19, u_z 20, u_z 21, u_z 22, u_z 23, u_z 24, u_z 25, u_z 26, u_z 27, u_z 28, u_z 29, u_z 30, u_z 31, u_z 32, u_z 33, u_z 34, u_z 35, u_z 36, u_z 37, u_z 38, u_z 39, u_z 40, u_z 41, u_z 42, u_z 43, u_z 44, u_z 45, u_z 46, u_z 47, u_z 48, u_z 49, u_z 50, u_z 51, d_z, v_z 0, v_z 1, v_z 2, v_z 3, v_z 4, v_z 5, v_z 6, v_z 7, v_z 8, v_z 9, v_z 10, v_z 11, v_z 12, v_z 13, v_z 14, v_z 15] b_z t0 t1 t2 t3) cA ZM0 = Zr_KnitRiver cA a_z u_z ++ Zr_Model cA d_z v_z := by
  unfold Zws
  simp only [Zce_f]
  rfl
set_option maxRecDepth 100000 in
set_option maxHeartbeats 4000000 in
/-- the law makes its two objects -/
theorem Zlaw_new {X : Zx} {z0 sa b_z : Nat} (hX : ZNK X 196 z0 sa 2048 70 2609) (kk : ∀ (a_z d_z : Nat) (u_z v_z : Nat → Nat), ZN X (Zr_KnitRiver (zcA X) a_z u_z ++ Zr_Model (zcA X) d_z v_z) [(2, .ref d_z), (1, .ref a_z), (0, .ref b_z)] [] 16 70 2609) : ZN X [] [(0, .ref b_z)] [] 0 0 0 := by
  refine Zn_nw (idx := 7) (c_z := 0) (fs := [.null, .null, .null, .null, .null, .null, .null, .null, .int 0]) hX (by decide +kernel) rfl (i1_z := 142) rfl (i2_z := 143) rfl (i3 := 129) rfl (by decide +kernel) (ce' := 1) rfl (sl' := 9) rfl (by decide) (by decide) (pc' := 3) rfl (fun a_z => ?_)
  refine Zn_du hX (by decide +kernel) rfl (pc' := 4) rfl ?_
  refine Zn_ct (idx := 9) hX c_KnitRiver (by decide +kernel) (i1_z := 144) (Or.inl rfl) (i2_z := 145) rfl (i3 := 129) rfl (i4 := 146) rfl (by decide) rfl rfl rfl (by decide) (Nat.le_of_ble_eq_true rfl) (ce' := 53) rfl (sl' := 1195) rfl (by decide) (by decide) (pc' := 7) rfl (fun u_z => ?_)
  refine Zn_w (ws' := Zr_KnitRiver (zcA X) a_z u_z) rfl ?_
  refine Zn_as (i_z := 1) hX (by decide +kernel) (by decide) (l' := [(1, .ref a_z), (0, .ref b_z)]) rfl (pc' := 8) rfl ?_
  refine Zn_nw (idx := 10) (c_z := 8) (fs := [.null, .null, .int 0, .null, .int 0, .int 0, .int 0, .int 0, .null, .null, .null, .null, .int 0, .null, .null, .int 0, .null, .null, .int 0, .int 0, .null, .int 0, .int 0, .null, .null, .null, .null]) hX (by decide +kernel) rfl (i1_z := 905) rfl (i2_z := 906) rfl (i3 := 137) rfl (by decide +kernel) (ce' := 54) rfl (sl' := 1222) rfl (by decide) (by decide) (pc' := 11) rfl (fun d_z => ?_)
  refine Zn_du hX (by decide +kernel) rfl (pc' := 12) rfl ?_
  refine Zn_ct (idx := 12) hX c_Model (by decide +kernel) (i1_z := 907) (Or.inl rfl) (i2_z := 908) rfl (i3 := 137) rfl (i4 := 909) rfl (by decide) rfl rfl rfl (by decide) (Nat.le_of_ble_eq_true rfl) (ce' := 70) rfl (sl' := 2609) rfl (by decide) (by decide) (pc' := 15) rfl (fun v_z => ?_)
  refine Zn_as (i_z := 2) hX (by decide +kernel) (by decide) (l' := [(2, .ref d_z), (1, .ref a_z), (0, .ref b_z)]) rfl (pc' := 16) rfl ?_
  exact kk a_z d_z u_z v_z
set_option maxRecDepth 100000 in
theorem Zlaw_ok {p_z : Program} {l : Launch} {e_z : Env} {s_z : State} {m_z : MethodId} {below : List Frame} {meth : Method} {c_z : Code} {b_z L : Nat} {xs : Nat → Int32} {D : va_G} {ad : Nat → Nat} {cA : Nat → ClassId} {t0 t1 t2 t3 : Nat} (hx_z : p_z.tables.exec = Jvm.exec) (hb_z : c_z.code = code) (hown : s_z.vm.findClass R_law = some m_z.cls) (htg : ∀ w_z ∈ Ztg, w_z.before #[Value.ref b_z] s_z = true) (hK : va_K D Zcl (Zty cA) s_z) (hX : va_X b_z L xs s_z s_z.heap) (hbl : b_z < s_z.heap.size) (hinj : Zinj ad) (hin : ∀ i_z, i_z < Zno → s_z.heap.size ≤ ad i_z)
    (h0_z : t0 < s_z.heap.size ∧ (∀ sc q_z, ZoL sc 100 = some q_z → Zoa t0 q_z.1 q_z.2.1 q_z.2.2 s_z s_z.heap) ∧ ∀ q_z, ZstL 100 = some q_z → va_Z q_z.1 q_z.2.1 q_z.2.2 (.ref t0) (fun a_z => s_z.heap.size ≤ a_z) s_z s_z.heap) (h1_z : t1 < s_z.heap.size ∧ (∀ sc q_z, ZoL sc 101 = some q_z → Zoa t1 q_z.1 q_z.2.1 q_z.2.2 s_z s_z.heap) ∧ ∀ q_z, ZstL 101 = some q_z → va_Z q_z.1 q_z.2.1 q_z.2.2 (.ref t1) (fun a_z => s_z.heap.size ≤ a_z) s_z s_z.heap) (h2_z : t2 < s_z.heap.size ∧ (∀ sc q_z, ZoL sc 102 = some q_z → Zoa t2 q_z.1 q_z.2.1 q_z.2.2 s_z s_z.heap) ∧ ∀ q_z, ZstL 102 = some q_z → va_Z q_z.1 q_z.2.1 q_z.2.2 (.ref t2) (fun a_z => s_z.heap.size ≤ a_z) s_z s_z.heap) (h3_z : t3 < s_z.heap.size ∧ (∀ sc q_z, ZoL sc 103 = some q_z → Zoa t3 q_z.1 q_z.2.1 q_z.2.2 s_z s_z.heap) ∧ ∀ q_z, ZstL 103 = some q_z → va_Z q_z.1 q_z.2.1 q_z.2.2 (.ref t3) (fun a_z => s_z.heap.size ≤ a_z) s_z s_z.heap) (ad99 : ad 99 = b_z) (a0 : ad 100 = t0) (a1_z : ad 101 = t1) (a2_z : ad 102 = t2) (a3 : ad 103 = t3) (hne : ∀ w_z ∈ Znest, va_Nw w_z s_z) (hml : c_z.maxLocals = 4) : ZOK (p_z, l, e_z, room_1, s_z, m_z, #[Value.ref b_z], below, meth, c_z, D, ad, cA, fun q_z => s_z.heap.size ≤ q_z, (L, xs), 70, 2609, lw_Z below #[Value.ref b_z] s_z) 196 2048 Zt196 := by
  obtain ⟨l0, o0, y0⟩ := h0_z
  obtain ⟨l1, o1, y1_z⟩ := h1_z
  obtain ⟨l2, o2, y2_z⟩ := h2_z
  obtain ⟨l3, o3, y3⟩ := h3_z
  refine ⟨hx_z, hb_z, hown, htg, hK, ⟨hinj, hin⟩, fun q_z h_z => h_z, ⟨fun o_z q_z hq_z => ?_, fun o_z q_z hq_z => ?_⟩, hne, Zk196, ⟨Nat.le_of_ble_eq_true rfl, Nat.le_of_ble_eq_true rfl⟩, hml, ⟨Nat.le_of_ble_eq_true rfl, Nat.le_of_ble_eq_true rfl⟩⟩
  · have fin : ∀ t, ad o_z = t → t < s_z.heap.size → Zoa t q_z.1 q_z.2.1 q_z.2.2 s_z s_z.heap → Zoa (ad o_z) q_z.1 q_z.2.1 q_z.2.2 s_z s_z.heap ∧ ¬ s_z.heap.size ≤ ad o_z := fun t h1_z h2_z h3_z => by rw [h1_z]; exact ⟨h3_z, Nat.not_le.mpr h2_z⟩
    by_cases e9 : o_z = 99
    · subst e9
      cases hq_z
      obtain ⟨scr2, g1, g2, g3, g4, g5⟩ := hX
      exact fin b_z ad99 hbl ⟨scr2, g1, g2, g3, ⟨by rw [g4]; exact Nat.le_refl _, by rw [g4]; rfl⟩, g5⟩
    · by_cases e100 : o_z = 100
      · subst e100; exact fin t0 a0 l0 (o0 _ _ hq_z)
      · by_cases e101 : o_z = 101
        · subst e101; exact fin t1 a1_z l1 (o1 _ _ hq_z)
        · by_cases e102 : o_z = 102
          · subst e102; exact fin t2 a2_z l2 (o2 _ _ hq_z)
          · by_cases e103 : o_z = 103
            · subst e103; exact fin t3 a3 l3 (o3 _ _ hq_z)
            · exact absurd hq_z (by unfold ZoL; split <;> simp_all)
  · by_cases e100 : o_z = 100
    · subst e100; have := y0 q_z hq_z; rw [← a0] at this; exact this
    · by_cases e101 : o_z = 101
      · subst e101; have := y1_z q_z hq_z; rw [← a1_z] at this; exact this
      · by_cases e102 : o_z = 102
        · subst e102; have := y2_z q_z hq_z; rw [← a2_z] at this; exact this
        · by_cases e103 : o_z = 103
          · subst e103; have := y3 q_z hq_z; rw [← a3] at this; exact this
          · exact absurd hq_z (by unfold ZstL; split <;> simp_all)
set_option maxRecDepth 100000 in
theorem Zlaw_end {p_z : Program} {l : Launch} {e_z : Env} {s_z : State} {m_z : MethodId} {below : List Frame} {meth : Method} {c_z : Code} {b_z L : Nat} {xs : Nat → Int32} {D : va_G} {ad : Nat → Nat} {cA : Nat → ClassId} (hx_z : p_z.tables.exec = Jvm.exec) (hb_z : c_z.code = code) (hr_z : meth.sig.returnType = ret) (hlocks : meth.locks = false) : ZE (p_z, l, e_z, room_1, s_z, m_z, #[Value.ref b_z], below, meth, c_z, D, ad, cA, fun q_z => s_z.heap.size ≤ q_z, (L, xs), 70, 2609, lw_Z below #[Value.ref b_z] s_z) 196 (fun r_z _ => r_z = some (.int (nI 1))) := by
  refine ⟨fun v_z M' hret hp pc H locs ls hd_z hP_z hS_z => ?_, fun hret => absurd hret (by decide)⟩
  cases hp
  refine va_forget (fun q_z hq_z => hS_z.2.2 q_z hq_z) ?_
  refine W.widen (k := 600000) (n := 7302250) (Nat.le_of_ble_eq_true rfl) (Nat.le_of_ble_eq_true rfl) ?_
  exact lw_ret hx_z hb_z hr_z hlocks (by rw [← hb_z]; exact hd_z)
theorem Zpc16 : Zpc (Zsf Zt196 16) = 16 := Zsf_pc (by decide +kernel)
theorem Zlaw_go {X : Zx} (hX : ZOK X 196 2048 Zt196) (hE : ZE X 196 (fun r_z _ => r_z = some (.int (nI 1)))) (hlen : (zsc X).1 ≤ 100000) {H : Heap} {locs : List Loc} {ls : Array Slot} (hP_z : Zpic X ZM0 H) (hS_z : va_S (zA X) (zs X).heap H locs) (hl_z : lv_has ls (zc X).maxLocals [(0, .ref (zad X 99)), (1, .ref (zad X 0)), (2, .ref (zad X 53))]) : ZW X H locs (F0 (zm X) 16 ls []) := by
  have hgo := Zlaw_walk hX hE (by decide) hlen Zgl0 (Zsuf_sf Zt196 16) H locs ls hP_z hS_z hl_z
  rw [Zpc16] at hgo
  exact hgo
set_option maxRecDepth 100000 in
set_option maxHeartbeats 4000000 in
theorem Zlaw_mid {p_z : Program} {l : Launch} {e_z : Env} {s_z : State} {m_z : MethodId} {below : List Frame} {meth : Method} {c_z : Code} {b_z L : Nat} {xs : Nat → Int32} {D : va_G} {cA : Nat → ClassId} {t0 t1 t2 t3 : Nat} (hL : L ≤ 3072) (hx_z : p_z.tables.exec = Jvm.exec) (hb_z : c_z.code = code) (hr_z : meth.sig.returnType = ret) (hlocks : meth.locks = false) (hown : s_z.vm.findClass R_law = some m_z.cls) (htg : ∀ w_z ∈ Ztg, w_z.before #[Value.ref b_z] s_z = true) (hK : va_K D Zcl (Zty cA) s_z) (hX : va_X b_z L xs s_z s_z.heap) (hbl : b_z < s_z.heap.size)
    (h0_z : t0 < s_z.heap.size ∧ (∀ sc q_z, ZoL sc 100 = some q_z → Zoa t0 q_z.1 q_z.2.1 q_z.2.2 s_z s_z.heap) ∧ ∀ q_z, ZstL 100 = some q_z → va_Z q_z.1 q_z.2.1 q_z.2.2 (.ref t0) (fun a_z => s_z.heap.size ≤ a_z) s_z s_z.heap) (h1_z : t1 < s_z.heap.size ∧ (∀ sc q_z, ZoL sc 101 = some q_z → Zoa t1 q_z.1 q_z.2.1 q_z.2.2 s_z s_z.heap) ∧ ∀ q_z, ZstL 101 = some q_z → va_Z q_z.1 q_z.2.1 q_z.2.2 (.ref t1) (fun a_z => s_z.heap.size ≤ a_z) s_z s_z.heap) (h2_z : t2 < s_z.heap.size ∧ (∀ sc q_z, ZoL sc 102 = some q_z → Zoa t2 q_z.1 q_z.2.1 q_z.2.2 s_z s_z.heap) ∧ ∀ q_z, ZstL 102 = some q_z → va_Z q_z.1 q_z.2.1 q_z.2.2 (.ref t2) (fun a_z => s_z.heap.size ≤ a_z) s_z s_z.heap) (h3_z : t3 < s_z.heap.size ∧ (∀ sc q_z, ZoL sc 103 = some q_z → Zoa t3 q_z.1 q_z.2.1 q_z.2.2 s_z s_z.heap) ∧ ∀ q_z, ZstL 103 = some q_z → va_Z q_z.1 q_z.2.1 q_z.2.2 (.ref t3) (fun a_z => s_z.heap.size ≤ a_z) s_z s_z.heap) (hne : ∀ w_z ∈ Znest, va_Nw w_z s_z) (hml : c_z.maxLocals = 4) {a_z d_z : Nat} {u_z v_z : Nat → Nat} {ad : Nat → Nat} (hw_z : Zws ad cA ZM0 = Zr_KnitRiver cA a_z u_z ++ Zr_Model cA d_z v_z) (ad99 : ad 99 = b_z) (a0 : ad 100 = t0) (a1_z : ad 101 = t1) (a2_z : ad 102 = t2) (a3 : ad 103 = t3) (ad0 : ad 0 = a_z) (ad53 : ad 53 = d_z) : ZN (p_z, l, e_z, room_1, s_z, m_z, #[Value.ref b_z], below, meth, c_z, D, fun _ => 0, cA, fun q_z => s_z.heap.size ≤ q_z, (L, xs), 0, 0, lw_Z below #[Value.ref b_z] s_z) (Zr_KnitRiver cA a_z u_z ++ Zr_Model cA d_z v_z) [(2, .ref d_z), (1, .ref a_z), (0, .ref b_z)] [] 16 70 2609 := by
  intro H locs ls hP_z hD hS_z hl_z
  have hP2 : va_P D Zcl (Zws ad cA ZM0) H := by rw [hw_z]; exact hP_z
  have hD2 : va_D (fun q_z => s_z.heap.size ≤ q_z) (Zws ad cA ZM0) := by rw [hw_z]; exact hD
  have hinj : Zinj ad := fun i_z j_z hi_z hj_z hij => hD2.1 i_z j_z _ _ (Zws_at hi_z) (Zws_at hj_z) hij
  have hin : ∀ i_z, i_z < Zno → s_z.heap.size ≤ ad i_z := fun i_z hi_z => hD2.2 i_z _ (Zws_at hi_z)
  have hOK := Zlaw_ok (l := l) (e_z := e_z) (below := below) (meth := meth) hx_z hb_z hown htg hK hX hbl hinj hin h0_z h1_z h2_z h3_z ad99 a0 a1_z a2_z a3 hne hml
  have hE := Zlaw_end (p_z := p_z) (l := l) (e_z := e_z) (D := D) (ad := ad) (cA := cA) (L := L) (xs := xs) (b_z := b_z) (below := below) (s_z := s_z) (m_z := m_z) hx_z hb_z hr_z hlocks
  have hgo := Zlaw_go hOK hE (show L ≤ 100000 by omega) hP2 hS_z (show lv_has ls c_z.maxLocals [(0, .ref (ad 99)), (1, .ref (ad 0)), (2, .ref (ad 53))] by
    rw [ad99, ad0, ad53]
    exact lv_sub hl_z [2, 1, 0] rfl)
  exact hgo

set_option maxRecDepth 100000 in
set_option maxHeartbeats 4000000 in
/-- THE LAW, from its entry -/
theorem whole_start {p_z : Program} {e_z : Env} {s_z : State} {m_z : MethodId} {below : List Frame} {meth : Method} {c_z : Code} (l : Launch) (hflags : l.flags = flags0) {b_z L : Nat} {xs : Nat → Int32} (hL : L ≤ 3072) (C0 : lw_At p_z s_z m_z meth c_z b_z L xs) : W p_z l e_z room_1 s_z m_z #[Value.ref b_z] below meth c_z s_z.heap [] 0 0 (lw_Z below #[Value.ref b_z] s_z) (entryFrame m_z ([Value.ref b_z] : List Value).toArray 4) := by
  obtain ⟨hx_z, hb_z, hr_z, hml, hown, hts, hX, hbl, hlocks, hgv⟩ := id C0
  have htg : ∀ w_z ∈ Ztg, w_z.before #[Value.ref b_z] s_z = true := fun w_z hw_z => hts w_z (List.mem_filter.mp hw_z).1
  obtain ⟨D, hKn⟩ := Zknow htg
  obtain ⟨cA, hKa⟩ := Zkinds hts
  have hK : va_K D Zcl (Zty cA) s_z := ⟨hKn, hKa⟩
  obtain ⟨t0, l0, o0, y0⟩ := Zstat100 hts hgv
  obtain ⟨t1, l1, o1, y1_z⟩ := Zstat101 hts hgv
  obtain ⟨t2, l2, o2, y2_z⟩ := Zstat102 hts hgv
  obtain ⟨t3, l3, o3, y3⟩ := Zstat103 hts hgv
  have hne : ∀ w_z ∈ Znest, va_Nw w_z s_z := fun w_z hw_z => by
    have h1_z := (List.mem_filter.mp hw_z).2
    have h2_z := hts w_z (List.mem_filter.mp hw_z).1
    cases w_z <;> first | exact va_Nw.of rfl h2_z | (simp [Zisn] at h1_z)
  have hst : Zst0 s_z.heap.size t0 s_z := ⟨y0 _ rfl, o0 (0, fun _ => 0) _ rfl, l0, Nat.le_refl _, va_AO.of (hts (.arrayOver (.object "KnitRiver$Text")) (Zc_get (h := 157) rfl)), va_AO.of (hts (.arrayOver (.object "KnitRiver$Sheet")) (Zc_get (h := 388) rfl)), hne⟩
  have key := Zlaw_new (X := (p_z, l, e_z, room_1, s_z, m_z, #[Value.ref b_z], below, meth, c_z, D, fun _ => 0, cA, fun q_z => s_z.heap.size ≤ q_z, (L, xs), 0, 0, lw_Z below #[Value.ref b_z] s_z)) (z0 := s_z.heap.size) (sa := t0) (b_z := b_z)
    ⟨hx_z, hb_z, hown, htg, hK, fun q_z h_z => h_z, fun q_z h_z => h_z, hst, hml, ⟨Nat.le_of_ble_eq_true rfl, Nat.le_of_ble_eq_true rfl⟩, Nat.le_of_ble_eq_true rfl, Nat.le_of_ble_eq_true rfl⟩ ?_
  · have hl_z := lv_entry ([.ref b_z] : List Value) (n := 4) (Nat.le_of_ble_eq_true rfl)
    rw [lg_entry_eq]
    exact key s_z.heap [] _ (fun k_z q_z h_z => by simp at h_z) ⟨fun i_z j_z p_z q_z h_z => by simp at h_z, fun k_z q_z h_z => by simp at h_z⟩ va_S.rf (by show lv_has _ c_z.maxLocals _; rw [hml]; exact hl_z)
  · exact fun a_z d_z u_z v_z => Zlaw_mid hL hx_z hb_z hr_z hlocks hown htg hK hX hbl ⟨l0, o0, y0⟩ ⟨l1, o1, y1_z⟩ ⟨l2, o2, y2_z⟩ ⟨l3, o3, y3⟩ hne hml (Zws0 cA b_z t0 t1 t2 t3 a_z d_z u_z v_z) rfl rfl rfl rfl rfl rfl rfl

