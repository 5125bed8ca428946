
-- how many bits are set: the JDK's way, and by taking the lowest away
def Zus (x_z k_z : Int32) : Int32 := (x_z.toUInt32 >>> (k_z.toUInt32 &&& Int32.toUInt32 31)).toInt32
def Zb1 (a_z : Int32) : Int32 := a_z - (Zus a_z (nI 1) &&& nI 1431655765)
def Zb2 (b_z : Int32) : Int32 := (b_z &&& nI 858993459) + (Zus b_z (nI 2) &&& nI 858993459)
def Zb3 (c_z : Int32) : Int32 := (c_z + Zus c_z (nI 4)) &&& nI 252645135
def Zb4 (d_z : Int32) : Int32 := d_z + Zus d_z (nI 8)
def Zb5 (e_z : Int32) : Int32 := e_z + Zus e_z (nI 16)
def Zbc (a_z : Int32) : Int32 := Zb5 (Zb4 (Zb3 (Zb2 (Zb1 a_z)))) &&& nI 63
def Zv1 (a_z : Nat) : Nat := a_z - (a_z / 2 &&& 1431655765)
def Zv2 (b_z : Nat) : Nat := (b_z &&& 858993459) + (b_z / 4 &&& 858993459)
def Zv3 (c_z : Nat) : Nat := (c_z + c_z / 16) &&& 252645135
def Zv4 (d_z : Nat) : Nat := d_z + d_z / 256
def Zv5 (e_z : Nat) : Nat := e_z + e_z / 65536
def Zbcn (a_z : Nat) : Nat := Zv5 (Zv4 (Zv3 (Zv2 (Zv1 a_z)))) &&& 63
def Zlow : Nat → Nat → Nat
  | 0, _ => 0
  | q_z + 1, a_z => if a_z = 0 then 0 else Zlow q_z (a_z &&& (a_z - 1)) + 1
theorem Zb1_n {a_z : Nat} (ha_z : a_z < 32768) : Zb1 (nI a_z) = nI (Zv1 a_z) ∧ Zv1 a_z < 32768 := by
  have l1 : a_z / 2 &&& 1431655765 ≤ a_z / 2 := Nat.and_le_left
  unfold Zb1 Zv1 Zus
  rw [pk_ushrN (by omega) (nI 1) 1 (by decide), Znand]
  show nI a_z - nI (a_z / 2 &&& 1431655765) = _ ∧ _
  rw [pk_sub (by omega)]
  exact ⟨rfl, by omega⟩
theorem Zb2_n {b_z : Nat} (hb_z : b_z < 32768) : Zb2 (nI b_z) = nI (Zv2 b_z) ∧ Zv2 b_z < 65536 := by
  have l2 : b_z &&& 858993459 ≤ b_z := Nat.and_le_left
  have l3 : b_z / 4 &&& 858993459 ≤ b_z / 4 := Nat.and_le_left
  unfold Zb2 Zv2 Zus
  rw [Znand, pk_ushrN (by omega) (nI 2) 2 (by decide), Znand, nI_add]
  exact ⟨rfl, by omega⟩
theorem Zb3_n {c_z : Nat} (hc_z : c_z < 65536) : Zb3 (nI c_z) = nI (Zv3 c_z) ∧ Zv3 c_z < 131072 := by
  have l4 : (c_z + c_z / 16) &&& 252645135 ≤ c_z + c_z / 16 := Nat.and_le_left
  unfold Zb3 Zv3 Zus
  rw [pk_ushrN (by omega) (nI 4) 4 (by decide), nI_add, Znand]
  exact ⟨rfl, by omega⟩
theorem Zb4_n {d_z : Nat} (hd_z : d_z < 131072) : Zb4 (nI d_z) = nI (Zv4 d_z) ∧ Zv4 d_z < 262144 := by
  unfold Zb4 Zv4 Zus
  rw [pk_ushrN (by omega) (nI 8) 8 (by decide), nI_add]
  exact ⟨rfl, by omega⟩
theorem Zb5_n {e_z : Nat} (he_z : e_z < 262144) : Zb5 (nI e_z) = nI (Zv5 e_z) := by
  unfold Zb5 Zv5 Zus
  rw [pk_ushrN (by omega) (nI 16) 16 (by decide), nI_add]
theorem Zbc_n {a_z : Nat} (ha_z : a_z < 32768) : Zbc (nI a_z) = nI (Zbcn a_z) := by
  obtain ⟨a1_z, a2_z⟩ := Zb1_n ha_z
  obtain ⟨b1_z, b2_z⟩ := Zb2_n a2_z
  obtain ⟨c1_z, c2⟩ := Zb3_n b2_z
  obtain ⟨d1, d2⟩ := Zb4_n c2
  unfold Zbc Zbcn
  rw [a1_z, b1_z, c1_z, d1, Zb5_n d2, Znand]
def Zpok (h_z : Nat) : Bool := (List.range 256).all (fun l => Nat.beq (Zbcn (256 * h_z + l)) (Zlow (256 * h_z + l + 1) (256 * h_z + l)) && Nat.ble (Zbcn (256 * h_z + l)) 15)
theorem Zpok_all : (List.range 128).all Zpok = true := by decide +kernel
theorem Zbcn_pp {a_z : Nat} (ha_z : a_z < 32768) : Zbcn a_z = Zlow (a_z + 1) a_z ∧ Zbcn a_z ≤ 15 := by
  have h1_z := List.all_eq_true.mp Zpok_all (a_z / 256) (List.mem_range.mpr (by omega))
  have h2_z := List.all_eq_true.mp h1_z (a_z % 256) (List.mem_range.mpr (by omega))
  rw [show 256 * (a_z / 256) + a_z % 256 = a_z by omega] at h2_z
  simp only [Bool.and_eq_true] at h2_z
  exact ⟨Nat.eq_of_beq_eq_true h2_z.1, Nat.le_of_ble_eq_true h2_z.2⟩
/-- how many rows flood at this WATER, so much TENSION more -/
def Zmy (f_z : Nat → Int32) (n_z : Nat) (much : Int32) (i_z : Nat) : Nat := Zbcn (Zfn f_z much (nI i_z - nI 9) n_z)
theorem Zmy_le {f_z : Nat → Int32} {n_z : Nat} {much : Int32} {i_z : Nat} (hn2 : n_z ≤ 15) : Zmy f_z n_z much i_z ≤ 15 := (Zbcn_pp (Nat.lt_of_lt_of_le (Zfn_lt f_z much (nI i_z - nI 9) n_z) (Z2p hn2))).2
def Zek (f_z : Nat → Int32) (n_z : Nat) (much : Int32) : Nat → Int32 × Nat
  | 0 => (-(nI 9), 16)
  | i_z + 1 => if Zmy f_z n_z much i_z < (Zek f_z n_z much i_z).2 then (nI i_z - nI 9, Zmy f_z n_z much i_z) else Zek f_z n_z much i_z
theorem Zek_le {f_z : Nat → Int32} {n_z : Nat} {much : Int32} (hn2 : n_z ≤ 15) : ∀ i_z, (Zek f_z n_z much i_z).2 ≤ 16 := by
  intro i_z
  induction i_z with
  | zero => exact Nat.le_refl _
  | succ i_z ih_z =>
    rw [Zek]
    split
    · exact Nat.le_trans (Zmy_le hn2) (by decide)
    · exact ih_z
theorem Zek_1 (f_z : Nat → Int32) {n_z : Nat} (much : Int32) (hn2 : n_z ≤ 15) : Zek f_z n_z much 1 = (nI 0 - nI 9, Zmy f_z n_z much 0) := by
  have h_z : Zmy f_z n_z much 0 < 16 := Nat.lt_of_le_of_lt (Zmy_le hn2) (by decide)
  show (if Zmy f_z n_z much 0 < 16 then (nI 0 - nI 9, Zmy f_z n_z much 0) else Zek f_z n_z much 0) = _
  rw [if_pos h_z]
def Fease (f_z : Nat → Int32) (n_z : Nat) (much what : Int32) : Int32 := if (nI 0 ≤ much ∧ much ≤ nI 999) ∧ nI 0 ≤ what ∧ what ≤ nI 1 then (if what = 0 then (Zek f_z n_z much 19).1 else nI (Zek f_z n_z much 19).2) else Er 1

set_option maxRecDepth 20000 in
set_option maxHeartbeats 1000000 in
theorem c_bitCount2 (a_z : Int32) (M : Zmem) : ZC 197 0 [.int a_z] M (fun r_z M' => r_z = some (.int (Zbc a_z)) ∧ M = M') := by
  refine ZC_of Zt197 Zk197 (Nat.le_of_ble_eq_true rfl) (by decide) rfl (fun X hX hE => ?_)
  refine Zgo hX 41 rfl (by (first | exact True.intro | assumption | (dsimp only [ZallP]; and_intros <;> (first | assumption | decide | omega | ((try simp (disch := omega) only [pk_mul, nI_add, Zcl_n]); exact Zin_n (by omega) (by decide)))))) ?_
  refine Zs_ret hX hE rfl ⟨rfl, rfl⟩

set_option maxRecDepth 20000 in
set_option maxHeartbeats 1000000 in
theorem s_bitsOf2 (a0 : Nat) (M : Zmem) (ha_z : a0 < 2 ^ 31) : ZC 85 0 [.int (nI a0)] M (fun r_z M' => r_z = some (.int (nI (Zlow (a0 + 1) a0))) ∧ M = M') := by
  refine ZC_of Zt85 Zk85 (Nat.le_of_ble_eq_true rfl) (by decide) rfl (fun X hX hE => ?_)
  have L : ∀ (q_z a_z c_z : Nat) (v_z : Int32), a_z < q_z → a_z < 2 ^ 31 → c_z + Zlow q_z a_z = Zlow (a0 + 1) a0 → ZP X Zt85 (Zsf Zt85 4) [(1, .int (nI c_z)), (2, .int (nI a_z)), (0, .int v_z)] [] M := by
    intro q_z
    induction q_z with
    | zero => intro a_z c_z v_z hq_z; exact absurd hq_z (Nat.not_lt_zero _)
    | succ q_z ih_z =>
      intro a_z c_z v_z hq_z hlt hc_z
      refine Zgo hX 1 rfl (by (first | exact True.intro | assumption | (dsimp only [ZallP]; and_intros <;> (first | assumption | decide | omega | ((try simp (disch := omega) only [pk_mul, nI_add, Zcl_n]); exact Zin_n (by omega) (by decide)))))) ?_
      refine Zs_eq hX (List.cons_ne_nil _ _) (fun h_z => ?_) (fun h_z => ?_)
      · obtain rfl : a_z = 0 := Zeq (b_z := 0) (by omega) (by decide) h_z
        refine Zgo hX 1 rfl (by (first | exact True.intro | assumption | (dsimp only [ZallP]; and_intros <;> (first | assumption | decide | omega | ((try simp (disch := omega) only [pk_mul, nI_add, Zcl_n]); exact Zin_n (by omega) (by decide)))))) ?_
        refine Zs_ret hX hE rfl ⟨by rw [← hc_z]; rfl, rfl⟩
      · obtain ⟨b_z, rfl⟩ : ∃ b_z, a_z = b_z + 1 := ⟨a_z - 1, by
          rcases Nat.eq_zero_or_pos a_z with e_z | e_z
          · subst e_z; exact absurd rfl h_z
          · omega⟩
        refine Zgo hX 8 rfl (by (first | exact True.intro | assumption | (dsimp only [ZallP]; and_intros <;> (first | assumption | decide | omega | ((try simp (disch := omega) only [pk_mul, nI_add, Zcl_n]); exact Zin_n (by omega) (by decide)))))) ?_
        rw [Zpr, Znand, nI_add]
        have hle : (b_z + 1) &&& b_z ≤ b_z := Nat.and_le_right
        refine Zs_sub (l' := [(1, .int (nI (c_z + 1))), (2, .int (nI ((b_z + 1) &&& b_z))), (0, .int v_z)]) rfl ?_
        refine ih_z _ (c_z + 1) v_z (by omega) (by omega) ?_
        rw [← hc_z, Zlow, if_neg (by omega), Nat.add_sub_cancel]
        omega
  refine Zgo hX 4 rfl (by (first | exact True.intro | assumption | (dsimp only [ZallP]; and_intros <;> (first | assumption | decide | omega | ((try simp (disch := omega) only [pk_mul, nI_add, Zcl_n]); exact Zin_n (by omega) (by decide)))))) ?_
  refine Zs_sub (l' := [(1, .int (nI 0)), (2, .int (nI a0)), (0, .int (nI a0))]) rfl ?_
  exact L (a0 + 1) a0 0 (nI a0) (by omega) ha_z (Nat.zero_add _)

set_option maxRecDepth 20000 in
set_option maxHeartbeats 1000000 in
theorem k_ease2 (f_z : Nat → Int32) (n_z : Nat) (much what : Int32) (M : Zmem) (hz_z : Zrv 1 f_z M) (hfi : Zfi f_z) (hn_z : f_z 7 = nI n_z) (hn2 : n_z ≤ 15) : ZC 21 5 [.ref 0, .int much, .int what] M (fun r_z M' => r_z = some (.int (Fease f_z n_z much what)) ∧ Sc M M') := by
  refine ZC_of Zt21 Zk21 (Nat.le_of_ble_eq_true rfl) (by decide) rfl (fun X hX hE => ?_)
  have BAD : ¬ ((nI 0 ≤ much ∧ much ≤ nI 999) ∧ nI 0 ≤ what ∧ what ≤ nI 1) → ZP X Zt21 (Zsf Zt21 16) (lv_args 0 [.ref 0, .int much, .int what]) [] M := by
    intro hbad
    refine Zgo hX 2 rfl (by (first | exact True.intro | assumption | (dsimp only [ZallP]; and_intros <;> (first | assumption | decide | omega | ((try simp (disch := omega) only [pk_mul, nI_add, Zcl_n]); exact Zin_n (by omega) (by decide)))))) ?_
    refine Zs_callv hX (List.cons_ne_nil _ _) (k_refuse 1 _ (by decide)) (by first | decide | omega) (by decide) rfl rfl rfl (by decide) (Nat.le_of_ble_eq_true rfl) (fun r_z M' hc_z => ?_)
    obtain ⟨rfl, hsc⟩ := hc_z
    refine Zs_ret hX hE rfl ⟨by rw [Fease, if_neg hbad], hsc⟩
  refine Zgo hX 1 rfl (by (first | exact True.intro | assumption | (dsimp only [ZallP]; and_intros <;> (first | assumption | decide | omega | ((try simp (disch := omega) only [pk_mul, nI_add, Zcl_n]); exact Zin_n (by omega) (by decide)))))) ?_
  refine Zs_calls hX (List.cons_ne_nil _ _) (by decide) (k_isWater _ _) (by first | decide | omega) rfl rfl (by decide) (Nat.le_of_ble_eq_true rfl) (fun r_z M' hc_z => ?_)
  rcases hc_z with ⟨⟨rfl, h1_z⟩ | ⟨rfl, h1_z⟩, rfl⟩
  · refine Zs_eq hX (List.cons_ne_nil _ _) (fun q_z => False.elim (by revert q_z; decide)) (fun _ => ?_)
    refine Zgo hX 3 rfl (by (first | exact True.intro | assumption | (dsimp only [ZallP]; and_intros <;> (first | assumption | decide | omega | ((try simp (disch := omega) only [pk_mul, nI_add, Zcl_n]); exact Zin_n (by omega) (by decide)))))) ?_
    refine Zs_calls hX (List.cons_ne_nil _ _) (by decide) (k_within _ _ _ _) (by first | decide | omega) rfl rfl (by decide) (Nat.le_of_ble_eq_true rfl) (fun r_z M' hc_z => ?_)
    rcases hc_z with ⟨⟨rfl, h2_z⟩ | ⟨rfl, h2_z⟩, rfl⟩
    · refine Zs_ne hX (List.cons_ne_nil _ _) (fun _ => ?_) (fun q_z => False.elim (by revert q_z; decide))
      have hok : (nI 0 ≤ much ∧ much ≤ nI 999) ∧ nI 0 ≤ what ∧ what ≤ nI 1 := ⟨h1_z, h2_z⟩
      have L : ∀ (q_z i_z : Nat) (M1 : Zmem), 19 - i_z < q_z → i_z ≤ 19 → 0 ≤ i_z → Sc M M1 → ZP X Zt21 (Zsf Zt21 33) [(3, .int (Zek f_z n_z much i_z).1), (4, .int (nI (Zek f_z n_z much i_z).2)), (5, .int (nI i_z - nI 9)), (0, .ref 0), (1, .int much), (2, .int what)] [] M1 := by
        intro q_z
        induction q_z with
        | zero => intro i_z M1 hq_z; exact absurd hq_z (Nat.not_lt_zero _)
        | succ q_z ih_z =>
          intro i_z M1 hq_z hi_z h1i hsc
          refine Zgo hX 2 rfl (by (first | exact True.intro | assumption | (dsimp only [ZallP]; and_intros <;> (first | assumption | decide | omega | ((try simp (disch := omega) only [pk_mul, nI_add, Zcl_n]); exact Zin_n (by omega) (by decide)))))) ?_
          refine Zs_igt hX (List.cons_ne_nil _ _) (fun h_z => ?_) (fun h_z => ?_)
          · obtain rfl : i_z = 19 := by have := (Zm9 (show i_z < 20 by omega)).2.mp h_z; omega
            refine Zgo hX 1 rfl (by (first | exact True.intro | assumption | (dsimp only [ZallP]; and_intros <;> (first | assumption | decide | omega | ((try simp (disch := omega) only [pk_mul, nI_add, Zcl_n]); exact Zin_n (by omega) (by decide)))))) ?_
            refine Zs_ne hX (List.cons_ne_nil _ _) (fun h2_z => ?_) (fun h2_z => ?_)
            · refine Zgo hX 1 rfl (by (first | exact True.intro | assumption | (dsimp only [ZallP]; and_intros <;> (first | assumption | decide | omega | ((try simp (disch := omega) only [pk_mul, nI_add, Zcl_n]); exact Zin_n (by omega) (by decide)))))) ?_
              refine Zs_ret hX hE rfl ⟨by rw [Fease, if_pos hok, if_neg h2_z], hsc⟩
            · refine Zgo hX 2 rfl (by (first | exact True.intro | assumption | (dsimp only [ZallP]; and_intros <;> (first | assumption | decide | omega | ((try simp (disch := omega) only [pk_mul, nI_add, Zcl_n]); exact Zin_n (by omega) (by decide)))))) ?_
              refine Zs_ret hX hE rfl ⟨by rw [Fease, if_pos hok, if_pos h2_z], hsc⟩
          · have hlt : i_z ≤ 18 := (Nat.lt_or_ge 18 i_z).elim (fun q_z => absurd ((Zm9 (show i_z < 20 by omega)).2.mpr q_z) h_z) id
            refine Zgo hX 4 rfl (by (first | exact True.intro | assumption | (dsimp only [ZallP]; and_intros <;> (first | assumption | decide | omega | ((try simp (disch := omega) only [pk_mul, nI_add, Zcl_n]); exact Zin_n (by omega) (by decide)))))) ?_
            refine Zs_callv hX (List.cons_ne_nil _ _) (k_waters f_z n_z much (nI i_z - nI 9) M1 (hz_z.sc (Or.inl rfl) hsc) hfi hn_z hn2) (by first | decide | omega) (by decide) rfl rfl rfl (by decide) (Nat.le_of_ble_eq_true rfl) (fun r_z M' hc_z => ?_)
            obtain ⟨rfl, hsc2, -⟩ := hc_z
            refine Zs_calls hX (List.cons_ne_nil _ _) (by decide) (c_bitCount2 _ _) (by first | decide | omega) rfl rfl (by decide) (Nat.le_of_ble_eq_true rfl) (fun r_z M' hc_z => ?_)
            obtain ⟨rfl, rfl⟩ := hc_z
            have hsc3 := hsc.tr hsc2
            have hF : Zfn f_z much (nI i_z - nI 9) n_z < 32768 := Nat.lt_of_lt_of_le (Zfn_lt f_z much (nI i_z - nI 9) n_z) (Z2p hn2)
            rw [Zbc_n hF]
            have e9 : Zbcn (Zfn f_z much (nI i_z - nI 9) n_z) = Zmy f_z n_z much i_z := rfl
            rw [e9]
            have hm_z := @Zmy_le f_z n_z much i_z hn2
            have hE := @Zek_le f_z n_z much hn2 i_z
            refine Zgo hX 3 rfl (by (first | exact True.intro | assumption | (dsimp only [ZallP]; and_intros <;> (first | assumption | decide | omega | ((try simp (disch := omega) only [pk_mul, nI_add, Zcl_n]); exact Zin_n (by omega) (by decide)))))) ?_
            refine Zs_ige hX (List.cons_ne_nil _ _) (fun h5_z => ?_) (fun h5_z => ?_)
            · have h6_z : ¬ Zmy f_z n_z much i_z < (Zek f_z n_z much i_z).2 := fun q_z => absurd ((Zn_le (by omega) (by omega)).mp h5_z) (by omega)
              refine Zgo hX 2 rfl (by (first | exact True.intro | assumption | (dsimp only [ZallP]; and_intros <;> (first | assumption | decide | omega | ((try simp (disch := omega) only [pk_mul, nI_add, Zcl_n]); exact Zin_n (by omega) (by decide)))))) ?_
              rw [(Zm9 (show i_z < 20 by omega)).1]
              refine Zs_sub (l' := [(3, .int (Zek f_z n_z much (i_z + 1)).1), (4, .int (nI (Zek f_z n_z much (i_z + 1)).2)), (5, .int (nI (i_z + 1) - nI 9)), (0, .ref 0), (1, .int much), (2, .int what)]) (by rw [Zek, if_neg h6_z]; rfl) ?_
              exact ih_z (i_z + 1) _ (by omega) (by omega) (by omega) hsc3
            · have h6_z : Zmy f_z n_z much i_z < (Zek f_z n_z much i_z).2 := (Nat.lt_or_ge _ _).elim id (fun q_z => absurd ((Zn_le (by omega) (by omega)).mpr q_z) h5_z)
              refine Zgo hX 6 rfl (by (first | exact True.intro | assumption | (dsimp only [ZallP]; and_intros <;> (first | assumption | decide | omega | ((try simp (disch := omega) only [pk_mul, nI_add, Zcl_n]); exact Zin_n (by omega) (by decide)))))) ?_
              rw [(Zm9 (show i_z < 20 by omega)).1]
              refine Zs_sub (l' := [(3, .int (Zek f_z n_z much (i_z + 1)).1), (4, .int (nI (Zek f_z n_z much (i_z + 1)).2)), (5, .int (nI (i_z + 1) - nI 9)), (0, .ref 0), (1, .int much), (2, .int what)]) (by rw [Zek, if_pos h6_z]; rfl) ?_
              exact ih_z (i_z + 1) _ (by omega) (by omega) (by omega) hsc3
      refine Zgo hX 6 rfl (by (first | exact True.intro | assumption | (dsimp only [ZallP]; and_intros <;> (first | assumption | decide | omega | ((try simp (disch := omega) only [pk_mul, nI_add, Zcl_n]); exact Zin_n (by omega) (by decide)))))) ?_
      refine Zs_sub (l' := [(3, .int (-(nI 9))), (4, .int (nI 16)), (5, .int (nI 0 - nI 9)), (0, .ref 0), (1, .int much), (2, .int what)]) rfl ?_
      exact L 20 0 M (by decide) (by decide) (Nat.le_refl _) (Sc.rf _)
    · refine Zs_ne hX (List.cons_ne_nil _ _) (fun q_z => False.elim (by revert q_z; decide)) (fun _ => ?_)
      exact BAD (fun q_z => h2_z q_z.2)
  · refine Zs_eq hX (List.cons_ne_nil _ _) (fun _ => ?_) (fun q_z => False.elim (by revert q_z; decide))
    exact BAD (fun q_z => h1_z q_z.1)

set_option maxRecDepth 20000 in
set_option maxHeartbeats 1000000 in
theorem s_ease2 (n_z : Nat) (much what : Int32) (M : Zmem) (hfi : Zfi (M 54)) (hn_z : M 54 7 = nI n_z) (hn2 : n_z ≤ 15) : ZC 109 5 [.ref 53, .int much, .int what] M (fun r_z M' => r_z = some (.int (Fease (M 54) n_z much what)) ∧ Sc M M') := by
  refine ZC_of Zt109 Zk109 (Nat.le_of_ble_eq_true rfl) (by decide) rfl (fun X hX hE => ?_)
  have BAD : ¬ ((nI 0 ≤ much ∧ much ≤ nI 999) ∧ nI 0 ≤ what ∧ what ≤ nI 1) → ZP X Zt109 (Zsf Zt109 16) (lv_args 0 [.ref 53, .int much, .int what]) [] M := by
    intro hbad
    refine Zgo hX 2 rfl (by (first | exact True.intro | assumption | (dsimp only [ZallP]; and_intros <;> (first | assumption | decide | omega | ((try simp (disch := omega) only [pk_mul, nI_add, Zcl_n]); exact Zin_n (by omega) (by decide)))))) ?_
    refine Zs_callv hX (List.cons_ne_nil _ _) (s_error 1 _ (by decide)) (by first | decide | omega) (by decide) rfl rfl rfl (by decide) (Nat.le_of_ble_eq_true rfl) (fun r_z M' hc_z => ?_)
    obtain ⟨rfl, hsc⟩ := hc_z
    refine Zs_ret hX hE rfl ⟨by rw [Fease, if_neg hbad], hsc⟩
  refine Zgo hX 1 rfl (by (first | exact True.intro | assumption | (dsimp only [ZallP]; and_intros <;> (first | assumption | decide | omega | ((try simp (disch := omega) only [pk_mul, nI_add, Zcl_n]); exact Zin_n (by omega) (by decide)))))) ?_
  refine Zs_calls hX (List.cons_ne_nil _ _) (by decide) (s_isWater _ _) (by first | decide | omega) rfl rfl (by decide) (Nat.le_of_ble_eq_true rfl) (fun r_z M' hc_z => ?_)
  rcases hc_z with ⟨⟨rfl, h1_z⟩ | ⟨rfl, h1_z⟩, rfl⟩
  · refine Zs_eq hX (List.cons_ne_nil _ _) (fun q_z => False.elim (by revert q_z; decide)) (fun _ => ?_)
    refine Zgo hX 3 rfl (by (first | exact True.intro | assumption | (dsimp only [ZallP]; and_intros <;> (first | assumption | decide | omega | ((try simp (disch := omega) only [pk_mul, nI_add, Zcl_n]); exact Zin_n (by omega) (by decide)))))) ?_
    refine Zs_calls hX (List.cons_ne_nil _ _) (by decide) (s_in _ _ _ _) (by first | decide | omega) rfl rfl (by decide) (Nat.le_of_ble_eq_true rfl) (fun r_z M' hc_z => ?_)
    rcases hc_z with ⟨⟨rfl, h2_z⟩ | ⟨rfl, h2_z⟩, rfl⟩
    · refine Zs_ne hX (List.cons_ne_nil _ _) (fun _ => ?_) (fun q_z => False.elim (by revert q_z; decide))
      have hok : (nI 0 ≤ much ∧ much ≤ nI 999) ∧ nI 0 ≤ what ∧ what ≤ nI 1 := ⟨h1_z, h2_z⟩
      have L : ∀ (q_z i_z : Nat) (M1 : Zmem), 19 - i_z < q_z → i_z ≤ 19 → 1 ≤ i_z → Sc M M1 → ZP X Zt109 (Zsf Zt109 31) [(3, .int (Zek (M 54) n_z much i_z).1), (4, .int (nI (Zek (M 54) n_z much i_z).2)), (5, .int (nI i_z - nI 9)), (0, .ref 53), (1, .int much), (2, .int what)] [] M1 := by
        intro q_z
        induction q_z with
        | zero => intro i_z M1 hq_z; exact absurd hq_z (Nat.not_lt_zero _)
        | succ q_z ih_z =>
          intro i_z M1 hq_z hi_z h1i hsc
          refine Zgo hX 2 rfl (by (first | exact True.intro | assumption | (dsimp only [ZallP]; and_intros <;> (first | assumption | decide | omega | ((try simp (disch := omega) only [pk_mul, nI_add, Zcl_n]); exact Zin_n (by omega) (by decide)))))) ?_
          refine Zs_igt hX (List.cons_ne_nil _ _) (fun h_z => ?_) (fun h_z => ?_)
          · obtain rfl : i_z = 19 := by have := (Zm9 (show i_z < 20 by omega)).2.mp h_z; omega
            refine Zgo hX 1 rfl (by (first | exact True.intro | assumption | (dsimp only [ZallP]; and_intros <;> (first | assumption | decide | omega | ((try simp (disch := omega) only [pk_mul, nI_add, Zcl_n]); exact Zin_n (by omega) (by decide)))))) ?_
            refine Zs_ne hX (List.cons_ne_nil _ _) (fun h2_z => ?_) (fun h2_z => ?_)
            · refine Zgo hX 1 rfl (by (first | exact True.intro | assumption | (dsimp only [ZallP]; and_intros <;> (first | assumption | decide | omega | ((try simp (disch := omega) only [pk_mul, nI_add, Zcl_n]); exact Zin_n (by omega) (by decide)))))) ?_
              refine Zs_ret hX hE rfl ⟨by rw [Fease, if_pos hok, if_neg h2_z], hsc⟩
            · refine Zgo hX 2 rfl (by (first | exact True.intro | assumption | (dsimp only [ZallP]; and_intros <;> (first | assumption | decide | omega | ((try simp (disch := omega) only [pk_mul, nI_add, Zcl_n]); exact Zin_n (by omega) (by decide)))))) ?_
              refine Zs_ret hX hE rfl ⟨by rw [Fease, if_pos hok, if_pos h2_z], hsc⟩
          · have hlt : i_z ≤ 18 := (Nat.lt_or_ge 18 i_z).elim (fun q_z => absurd ((Zm9 (show i_z < 20 by omega)).2.mpr q_z) h_z) id
            refine Zgo hX 3 rfl (by (first | exact True.intro | assumption | (dsimp only [ZallP]; and_intros <;> (first | assumption | decide | omega | ((try simp (disch := omega) only [pk_mul, nI_add, Zcl_n]); exact Zin_n (by omega) (by decide)))))) ?_
            refine Zs_callv hX (List.cons_ne_nil _ _) (s_letDown n_z much (nI i_z - nI 9) M1 (by rw [hsc.f54]; exact hfi) (by rw [hsc.f54]; exact hn_z) hn2) (by first | decide | omega) (by decide) rfl rfl rfl (by decide) (Nat.le_of_ble_eq_true rfl) (fun r_z M' hc_z => ?_)
            obtain ⟨rfl, hsc2, hfl, -⟩ := hc_z
            rw [hsc.f54] at hfl
            have hF : Zfn (M 54) much (nI i_z - nI 9) n_z < 32768 := Nat.lt_of_lt_of_le (Zfn_lt (M 54) much (nI i_z - nI 9) n_z) (Z2p hn2)
            refine Zgo hX 2 rfl (by (first | exact True.intro | assumption | (dsimp only [ZallP]; and_intros <;> (first | assumption | decide | omega | ((try simp (disch := omega) only [pk_mul, nI_add, Zcl_n]); exact Zin_n (by omega) (by decide)))))) ?_
            rw [hfl]
            refine Zs_calls hX (List.cons_ne_nil _ _) (by decide) (s_bitsOf2 _ _ (by omega)) (by first | decide | omega) rfl rfl (by decide) (Nat.le_of_ble_eq_true rfl) (fun r_z M' hc_z => ?_)
            obtain ⟨rfl, rfl⟩ := hc_z
            have hsc3 := hsc.tr hsc2
            rw [← (Zbcn_pp hF).1]
            have e9 : Zbcn (Zfn (M 54) much (nI i_z - nI 9) n_z) = Zmy (M 54) n_z much i_z := rfl
            rw [e9]
            have hm_z := @Zmy_le (M 54) n_z much i_z hn2
            have hE := @Zek_le (M 54) n_z much hn2 i_z
            refine Zgo hX 3 rfl (by (first | exact True.intro | assumption | (dsimp only [ZallP]; and_intros <;> (first | assumption | decide | omega | ((try simp (disch := omega) only [pk_mul, nI_add, Zcl_n]); exact Zin_n (by omega) (by decide)))))) ?_
            refine Zs_ieq hX (List.cons_ne_nil _ _) (fun h5_z => ?_) (fun h5_z => ?_)
            · exact absurd (Int32.toInt_inj.mpr h5_z) (by rw [Zn_i (show (Zek (M 54) n_z much i_z).2 < 2 ^ 31 by omega), show (-(nI 1)).toInt = -1 from by decide]; omega)
            · refine Zgo hX 2 rfl (by (first | exact True.intro | assumption | (dsimp only [ZallP]; and_intros <;> (first | assumption | decide | omega | ((try simp (disch := omega) only [pk_mul, nI_add, Zcl_n]); exact Zin_n (by omega) (by decide)))))) ?_
              refine Zs_ige hX (List.cons_ne_nil _ _) (fun h7_z => ?_) (fun h7_z => ?_)
              · have h6_z : ¬ Zmy (M 54) n_z much i_z < (Zek (M 54) n_z much i_z).2 := fun q_z => absurd ((Zn_le (by omega) (by omega)).mp h7_z) (by omega)
                refine Zgo hX 2 rfl (by (first | exact True.intro | assumption | (dsimp only [ZallP]; and_intros <;> (first | assumption | decide | omega | ((try simp (disch := omega) only [pk_mul, nI_add, Zcl_n]); exact Zin_n (by omega) (by decide)))))) ?_
                rw [(Zm9 (show i_z < 20 by omega)).1]
                refine Zs_sub (l' := [(3, .int (Zek (M 54) n_z much (i_z + 1)).1), (4, .int (nI (Zek (M 54) n_z much (i_z + 1)).2)), (5, .int (nI (i_z + 1) - nI 9)), (0, .ref 53), (1, .int much), (2, .int what)]) (by rw [Zek, if_neg h6_z]; rfl) ?_
                exact ih_z (i_z + 1) _ (by omega) (by omega) (by omega) hsc3
              · have h6_z : Zmy (M 54) n_z much i_z < (Zek (M 54) n_z much i_z).2 := (Nat.lt_or_ge _ _).elim id (fun q_z => absurd ((Zn_le (by omega) (by omega)).mpr q_z) h7_z)
                refine Zgo hX 6 rfl (by (first | exact True.intro | assumption | (dsimp only [ZallP]; and_intros <;> (first | assumption | decide | omega | ((try simp (disch := omega) only [pk_mul, nI_add, Zcl_n]); exact Zin_n (by omega) (by decide)))))) ?_
                rw [(Zm9 (show i_z < 20 by omega)).1]
                refine Zs_sub (l' := [(3, .int (Zek (M 54) n_z much (i_z + 1)).1), (4, .int (nI (Zek (M 54) n_z much (i_z + 1)).2)), (5, .int (nI (i_z + 1) - nI 9)), (0, .ref 53), (1, .int much), (2, .int what)]) (by rw [Zek, if_pos h6_z]; rfl) ?_
                exact ih_z (i_z + 1) _ (by omega) (by omega) (by omega) hsc3
      refine Zgo hX 6 rfl (by (first | exact True.intro | assumption | (dsimp only [ZallP]; and_intros <;> (first | assumption | decide | omega | ((try simp (disch := omega) only [pk_mul, nI_add, Zcl_n]); exact Zin_n (by omega) (by decide)))))) ?_
      refine Zs_sub (l' := [(3, .int (nI 0)), (4, .int (-(nI 1))), (5, .int (nI 0 - nI 9)), (0, .ref 53), (1, .int much), (2, .int what)]) rfl ?_
      refine Zgo hX 2 rfl (by (first | exact True.intro | assumption | (dsimp only [ZallP]; and_intros <;> (first | assumption | decide | omega | ((try simp (disch := omega) only [pk_mul, nI_add, Zcl_n]); exact Zin_n (by omega) (by decide)))))) ?_
      refine Zs_igt hX (List.cons_ne_nil _ _) (fun q_z => False.elim (by revert q_z; decide)) (fun _ => ?_)
      refine Zgo hX 3 rfl (by (first | exact True.intro | assumption | (dsimp only [ZallP]; and_intros <;> (first | assumption | decide | omega | ((try simp (disch := omega) only [pk_mul, nI_add, Zcl_n]); exact Zin_n (by omega) (by decide)))))) ?_
      refine Zs_callv hX (List.cons_ne_nil _ _) (s_letDown n_z much (nI 0 - nI 9) M hfi hn_z hn2) (by first | decide | omega) (by decide) rfl rfl rfl (by decide) (Nat.le_of_ble_eq_true rfl) (fun r_z M' hc_z => ?_)
      obtain ⟨rfl, hsc2, hfl, -⟩ := hc_z
      have hF : Zfn (M 54) much (nI 0 - nI 9) n_z < 32768 := Nat.lt_of_lt_of_le (Zfn_lt (M 54) much (nI 0 - nI 9) n_z) (Z2p hn2)
      refine Zgo hX 2 rfl (by (first | exact True.intro | assumption | (dsimp only [ZallP]; and_intros <;> (first | assumption | decide | omega | ((try simp (disch := omega) only [pk_mul, nI_add, Zcl_n]); exact Zin_n (by omega) (by decide)))))) ?_
      rw [hfl]
      refine Zs_calls hX (List.cons_ne_nil _ _) (by decide) (s_bitsOf2 _ _ (by omega)) (by first | decide | omega) rfl rfl (by decide) (Nat.le_of_ble_eq_true rfl) (fun r_z M' hc_z => ?_)
      obtain ⟨rfl, rfl⟩ := hc_z
      rw [← (Zbcn_pp hF).1]
      have e9 : Zbcn (Zfn (M 54) much (nI 0 - nI 9) n_z) = Zmy (M 54) n_z much 0 := rfl
      rw [e9]
      refine Zgo hX 3 rfl (by (first | exact True.intro | assumption | (dsimp only [ZallP]; and_intros <;> (first | assumption | decide | omega | ((try simp (disch := omega) only [pk_mul, nI_add, Zcl_n]); exact Zin_n (by omega) (by decide)))))) ?_
      refine Zs_ieq hX (List.cons_ne_nil _ _) (fun _ => ?_) (fun q_z => False.elim (by revert q_z; decide))
      refine Zgo hX 6 rfl (by (first | exact True.intro | assumption | (dsimp only [ZallP]; and_intros <;> (first | assumption | decide | omega | ((try simp (disch := omega) only [pk_mul, nI_add, Zcl_n]); exact Zin_n (by omega) (by decide)))))) ?_
      rw [(Zm9 (show 0 < 20 by omega)).1]
      refine Zs_sub (l' := [(3, .int (Zek (M 54) n_z much 1).1), (4, .int (nI (Zek (M 54) n_z much 1).2)), (5, .int (nI 1 - nI 9)), (0, .ref 53), (1, .int much), (2, .int what)]) (by rw [Zek_1 (M 54) much hn2]; rfl) ?_
      exact L 20 1 _ (by decide) (by decide) (Nat.le_refl _) hsc2
    · refine Zs_ne hX (List.cons_ne_nil _ _) (fun q_z => False.elim (by revert q_z; decide)) (fun _ => ?_)
      exact BAD (fun q_z => h2_z q_z.2)
  · refine Zs_eq hX (List.cons_ne_nil _ _) (fun _ => ?_) (fun q_z => False.elim (by revert q_z; decide))
    exact BAD (fun q_z => h1_z q_z.1)
