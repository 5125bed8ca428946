def Er (k : Nat) : Int32 := -(nI 1000000000) - nI k
def Zsaid (kd m : Nat) (w t se : Int32) : Int32 := match kd with
  | 1 => nI 2 * w - t + nI 1
  | 2 => nI 3 * (nI 2 * w - t) / nI 2
  | 3 => (nI 2 * w - t) / nI 2
  | 4 => nI 2 * w - t + nI 1 + nI m
  | 5 => if se - se / nI 4 * nI 4 = nI 3 then nI 3 * (nI 2 * w - t) / nI 2 else nI 3 * (nI 2 * w - t) / nI 2 / nI 2
  | 6 => nI 2 * w - t + w
  | _ => nI 2 * w - t
def Zbend (kd m : Nat) : Int32 := match kd with
  | 1 => nI (m % 3) - nI 1
  | 4 => nI 2 * (nI (m % 3) - nI 1)
  | 6 => nI 2
  | _ => nI 0
def Zabv (kd : Nat) : Int32 := ([-1, 0, 0, 0, 1, 2, 0] : List Int32).getD kd 0
def Zjn (c : Nat) (x y : Int32) : Int32 := match c with
  | 43 => x + y
  | 45 => x - y
  | 42 => x * y
  | 47 => if y = 0 then nI 0 else x / y
  | 37 => if y = 0 then nI 0 else x - x / y * y
  | 60 => if x < y then nI 1 else nI 0
  | 62 => if y < x then nI 1 else nI 0
  | 61 => if x = y then nI 1 else nI 0
  | 38 => if ¬ x = 0 ∧ ¬ y = 0 then nI 1 else nI 0
  | 124 => if ¬ x = 0 ∨ ¬ y = 0 then nI 1 else nI 0
  | _ => nI 0
def Zsg (c : Nat) : Prop := c = 124 ∨ c = 38 ∨ c = 60 ∨ c = 61 ∨ c = 62 ∨ c = 43 ∨ c = 45 ∨ c = 42 ∨ c = 47 ∨ c = 37
theorem Zdiv_m1 (x : Int32) : x / -(nI 1) = -x := by
  have e : -(nI 1) = (-1 : Int32) := by decide
  rw [e]
  apply Int32.toInt_inj.mp
  have h1 : (-1 : Int32).toInt = -1 := by decide
  rw [Int32.toInt_div, h1, Int32.toInt_neg, Int.tdiv_neg, Int.tdiv_one]
theorem Zrem_m1 (x : Int32) : x - x / -(nI 1) * -(nI 1) = nI 0 := by
  rw [Zdiv_m1]
  have e : -(nI 1) = (-1 : Int32) := by decide
  rw [e, Int32.mul_neg, Int32.mul_one, Int32.neg_neg, Int32.sub_self]
  rfl
/-- between the first and the last number, as a place -/
theorem Zrow_iff {row : Int32} {n : Nat} (hn : n ≤ 1000) : (nI 0 ≤ row ∧ row ≤ nI n - nI 1) ↔ vp_in row n := by
  rw [Zle_i, Zle_i, Zin_i, Zn_i (by decide)]
  rw [Zsub_i (by rw [Zn_i (by omega), Zn_i (by decide)]; omega) (by rw [Zn_i (by omega), Zn_i (by decide)]; omega), Zn_i (by omega), Zn_i (by decide)]
  omega
theorem Zin_ex {x : Int32} {n : Nat} (h : vp_in x n) (hn : n < 2 ^ 31) : ∃ j, j < n ∧ x = nI j := vp_in_of h hn
/-- a row of numbers between 0 and b -/
theorem Zbt_ex {x : Int32} {b : Nat} (hb : b < 2 ^ 31) (h : nI 0 ≤ x ∧ x ≤ nI b) : ∃ j, j ≤ b ∧ x = nI j := by
  obtain ⟨h1, h2⟩ := h
  rw [Zle_i, Zn_i (by decide)] at h1
  rw [Zle_i, Zn_i hb] at h2
  obtain ⟨j, hj, e, e2⟩ := Zof (x := x) (by omega)
  exact ⟨j, by omega, e⟩
theorem Zbt_of {j b : Nat} (hb : b < 2 ^ 31) (h : j ≤ b) : nI 0 ≤ nI j ∧ nI j ≤ nI b := ⟨(Zn_le (by decide) (by omega)).mpr (Nat.zero_le _), (Zn_le (by omega) hb).mpr h⟩
theorem Zbt_no {j b : Nat} (hb : j < 2 ^ 31) (h : b < j) : ¬ (nI 0 ≤ nI j ∧ nI j ≤ nI b) := fun q => absurd ((Zn_le hb (by omega)).mp q.2) (by omega)
theorem Zne {a b : Nat} (ha : a < 2 ^ 31) (hb : b < 2 ^ 31) (h : ¬ nI a = nI b) : a ≠ b := fun q => h (by rw [q])
theorem Zeq {a b : Nat} (ha : a < 2 ^ 31) (hb : b < 2 ^ 31) (h : nI a = nI b) : a = b := (Zn_eq ha hb).mp h

set_option maxRecDepth 20000 in
theorem k_refuse (k : Nat) (M : Zmem) (hk : 1 ≤ k ∧ k ≤ 6) : ZC 37 1 [.ref 0, .int (nI k)] M (fun r M' => r = some (.int (Er k)) ∧ Sc M M') := by
  refine ZC_of Zt37 Zk37 (Nat.le_of_ble_eq_true rfl) (by decide) rfl (fun X hX hE => ?_)
  refine Zgo hX 3 rfl (by first | exact True.intro | (dsimp only [ZallP]; and_intros <;> (first | decide | ((try simp only [pk_mul, nI_add]); exact Zin_n (by omega) (by decide))))) ?_
  refine Zs_calls hX (List.cons_ne_nil _ _) (by decide) (k_within _ _ _ _) (by decide) rfl rfl (by decide) (Nat.le_of_ble_eq_true rfl) (fun r M' hc => ?_)
  rcases hc with ⟨⟨rfl, hb⟩ | ⟨rfl, hb⟩, rfl⟩
  · skip
    refine Zs_eq hX (List.cons_ne_nil _ _) (fun q => absurd q (by decide)) (fun _ => ?_)
    refine Zgo hX 11 rfl (by first | exact True.intro | (dsimp only [ZallP]; and_intros <;> (first | decide | ((try simp only [pk_mul, nI_add]); exact Zin_n (by omega) (by decide))))) ?_
    refine Zs_ret hX hE rfl ⟨rfl, (Sc.rf _).u _ rfl⟩
  · skip
    exact absurd ⟨(Zn_le (by decide) (by omega)).mpr hk.1, (Zn_le (by omega) (by decide)).mpr hk.2⟩ hb

set_option maxRecDepth 20000 in
theorem s_error (k : Nat) (M : Zmem) (hk : 1 ≤ k ∧ k ≤ 6) : ZC 50 0 [.ref 53, .int (nI k)] M (fun r M' => r = some (.int (Er k)) ∧ Sc M M') := by
  refine ZC_of Zt50 Zk50 (Nat.le_of_ble_eq_true rfl) (by decide) rfl (fun X hX hE => ?_)
  refine Zgo hX 11 rfl (by first | exact True.intro | (dsimp only [ZallP]; and_intros <;> (first | decide | ((try simp only [pk_mul, nI_add]); exact Zin_n (by omega) (by decide))))) ?_
  refine Zs_ret hX hE rfl ⟨rfl, (Sc.rf _).u _ rfl⟩

set_option maxRecDepth 20000 in
theorem k_isRow (row : Int32) (n : Nat) (M : Zmem) (hn : M 1 5 = nI n) (hn2 : n ≤ 15) : ZC 38 1 [.ref 0, .int row] M (fun r M' => Zb r (vp_in row n) ∧ M = M') := by
  refine ZC_of Zt38 Zk38 (Nat.le_of_ble_eq_true rfl) (by decide) rfl (fun X hX hE => ?_)
  refine Zgo hX 7 rfl (by first | exact True.intro | (dsimp only [ZallP]; and_intros <;> (first | decide | ((try simp only [pk_mul, nI_add]); exact Zin_n (by omega) (by decide))))) ?_
  try simp only [Zcl_n, Nat.reducePow, Nat.reduceLT]
  refine Zs_calls hX (List.cons_ne_nil _ _) (by decide) (k_within _ _ _ _) (by decide) rfl rfl (by decide) (Nat.le_of_ble_eq_true rfl) (fun r M' hc => ?_)
  rcases hc with ⟨⟨rfl, hb⟩ | ⟨rfl, hb⟩, rfl⟩
  · skip
    refine Zs_retz hX hE rfl (by first | exact Or.inl rfl | exact Or.inr rfl | assumption) ⟨by first | exact Or.inl ⟨rfl, (Zrow_iff (by omega)).mp (by rw [← hn]; exact hb)⟩ | exact Or.inr ⟨rfl, fun q => hb (by rw [hn]; exact (Zrow_iff (by omega)).mpr q)⟩, rfl⟩
  · skip
    refine Zs_retz hX hE rfl (by first | exact Or.inl rfl | exact Or.inr rfl | assumption) ⟨by first | exact Or.inl ⟨rfl, (Zrow_iff (by omega)).mp (by rw [← hn]; exact hb)⟩ | exact Or.inr ⟨rfl, fun q => hb (by rw [hn]; exact (Zrow_iff (by omega)).mpr q)⟩, rfl⟩

set_option maxRecDepth 20000 in
theorem s_isRow (row : Int32) (n : Nat) (M : Zmem) (hn : M 54 7 = nI n) (hn2 : n ≤ 15) : ZC 54 1 [.ref 53, .int row] M (fun r M' => Zb r (vp_in row n) ∧ M = M') := by
  refine ZC_of Zt54 Zk54 (Nat.le_of_ble_eq_true rfl) (by decide) rfl (fun X hX hE => ?_)
  refine Zgo hX 8 rfl (by first | exact True.intro | (dsimp only [ZallP]; and_intros <;> (first | decide | ((try simp only [pk_mul, nI_add]); exact Zin_n (by omega) (by decide))))) ?_
  try simp only [Zcl_n, Nat.reducePow, Nat.reduceLT]
  refine Zs_calls hX (List.cons_ne_nil _ _) (by decide) (s_in _ _ _ _) (by decide) rfl rfl (by decide) (Nat.le_of_ble_eq_true rfl) (fun r M' hc => ?_)
  rcases hc with ⟨⟨rfl, hb⟩ | ⟨rfl, hb⟩, rfl⟩
  · skip
    refine Zs_retz hX hE rfl (by first | exact Or.inl rfl | exact Or.inr rfl | assumption) ⟨by first | exact Or.inl ⟨rfl, (Zrow_iff (by omega)).mp (by rw [← hn]; exact hb)⟩ | exact Or.inr ⟨rfl, fun q => hb (by rw [hn]; exact (Zrow_iff (by omega)).mpr q)⟩, rfl⟩
  · skip
    refine Zs_retz hX hE rfl (by first | exact Or.inl rfl | exact Or.inr rfl | assumption) ⟨by first | exact Or.inl ⟨rfl, (Zrow_iff (by omega)).mp (by rw [← hn]; exact hb)⟩ | exact Or.inr ⟨rfl, fun q => hb (by rw [hn]; exact (Zrow_iff (by omega)).mpr q)⟩, rfl⟩

set_option maxRecDepth 20000 in
theorem s_its (i w : Nat) (M : Zmem) (hi : i < 15) (hw : w < 5) : ZC 56 0 [.ref 53, .int (nI i), .int (nI w)] M (fun r M' => r = some (.int (M 54 (9 + 5 * i + w))) ∧ M = M') := by
  refine ZC_of Zt56 Zk56 (Nat.le_of_ble_eq_true rfl) (by decide) rfl (fun X hX hE => ?_)
  refine Zgo hX 10 rfl (by first | exact True.intro | (dsimp only [ZallP]; and_intros <;> (first | decide | ((try simp only [pk_mul, nI_add]); exact Zin_n (by omega) (by decide))))) ?_
  refine Zs_ret hX hE rfl ⟨(by rw [pk_mul, nI_add, nI_add, Zcl_n (by omega)]), rfl⟩

set_option maxRecDepth 20000 in
theorem s_lays1 (i w : Nat) (v : Int32) (M : Zmem) (hi : i < 15) (hw : w < 5) : ZC 57 0 [.ref 53, .int (nI i), .int (nI w), .int v] M (fun r M' => r = none ∧ Zu M 54 (9 + 5 * i + w) v = M') := by
  refine ZC_of Zt57 Zk57 (Nat.le_of_ble_eq_true rfl) (by decide) rfl (fun X hX hE => ?_)
  refine Zgo hX 11 rfl (by first | exact True.intro | (dsimp only [ZallP]; and_intros <;> (first | decide | ((try simp only [pk_mul, nI_add]); exact Zin_n (by omega) (by decide))))) ?_
  refine Zs_retv hX hE rfl ⟨rfl, (by rw [pk_mul, nI_add, nI_add, Zcl_n (by omega)])⟩

set_option maxRecDepth 20000 in
theorem s_change1 (j : Nat) (v : Int32) (M : Zmem) (hj : j < 418) : ZC 58 0 [.ref 53, .int (nI j), .int v] M (fun r M' => r = some (.int (M 54 j)) ∧ Zu M 54 j v = M') := by
  refine ZC_of Zt58 Zk58 (Nat.le_of_ble_eq_true rfl) (by decide) rfl (fun X hX hE => ?_)
  refine Zgo hX 11 rfl (by first | exact True.intro | (dsimp only [ZallP]; and_intros <;> (first | decide | ((try simp only [pk_mul, nI_add]); exact Zin_n (by omega) (by decide))))) ?_
  refine Zs_ret hX hE rfl ⟨by rw [Zcl_n (by omega)], by rw [Zcl_n (by omega)]⟩

set_option maxRecDepth 20000 in
theorem s_hasText (u n : Nat) (M : Zmem) (hu : u < 2) (hn : M 54 (84 + 125 * u) = nI n) (hn2 : n ≤ 60) : ZC 70 0 [.ref 53, .int (nI u)] M (fun r M' => Zb r (0 < n) ∧ M = M') := by
  refine ZC_of Zt70 Zk70 (Nat.le_of_ble_eq_true rfl) (by decide) rfl (fun X hX hE => ?_)
  refine Zgo hX 8 rfl (by first | exact True.intro | (dsimp only [ZallP]; and_intros <;> (first | decide | ((try simp only [pk_mul, nI_add]); exact Zin_n (by omega) (by decide))))) ?_
  rw [show (nI 84 + nI 125 * nI u).toNatClampNeg = 84 + 125 * u by rw [pk_mul, nI_add, Zcl_n (by omega)], hn]
  refine Zs_le hX (List.cons_ne_nil _ _) (fun h12 => ?_) (fun h12 => ?_)
  · skip
    refine Zgo hX 1 rfl (by first | exact True.intro | (dsimp only [ZallP]; and_intros <;> (first | decide | ((try simp only [pk_mul, nI_add]); exact Zin_n (by omega) (by decide))))) ?_
    refine Zs_retz hX hE rfl (by first | exact Or.inl rfl | exact Or.inr rfl | assumption) ⟨by first | exact Or.inl ⟨rfl, Nat.pos_of_ne_zero (fun q => h12 (by rw [q]; decide))⟩ | exact Or.inr ⟨rfl, fun q => absurd h12 (by rw [Zle_i, Zn_i (by omega)]; show ¬ ((n : Int) ≤ 0); omega)⟩, rfl⟩
  · skip
    refine Zgo hX 2 rfl (by first | exact True.intro | (dsimp only [ZallP]; and_intros <;> (first | decide | ((try simp only [pk_mul, nI_add]); exact Zin_n (by omega) (by decide))))) ?_
    refine Zs_retz hX hE rfl (by first | exact Or.inl rfl | exact Or.inr rfl | assumption) ⟨by first | exact Or.inl ⟨rfl, Nat.pos_of_ne_zero (fun q => h12 (by rw [q]; decide))⟩ | exact Or.inr ⟨rfl, fun q => absurd h12 (by rw [Zle_i, Zn_i (by omega)]; show ¬ ((n : Int) ≤ 0); omega)⟩, rfl⟩

set_option maxRecDepth 20000 in
theorem k_yarn (kd m : Nat) (w t se : Int32) (M : Zmem) (hkd : kd ≤ 6) (hm : m ≤ 9) : ZC 145 0 [.int (nI (10 * kd + m)), .int w, .int t, .int se] M (fun r M' => r = some (.int (Zsaid kd m w t se)) ∧ M = M') := by
  refine ZC_of Zt145 Zk145 (Nat.le_of_ble_eq_true rfl) (by decide) rfl (fun X hX hE => ?_)
  have e10 : nI (10 * kd + m) / nI 10 = nI kd := by rw [pk_div (by omega) (by decide) (by decide)]; congr 1; omega
  have r10 : nI (10 * kd + m) - nI (10 * kd + m) / nI 10 * nI 10 = nI m := by rw [pk_rem (by omega) (by decide) (by decide)]; congr 1; omega
  refine Zgo hX 15 rfl (by first | exact True.intro | (dsimp only [ZallP]; and_intros <;> (first | decide | ((try simp only [pk_mul, nI_add]); exact Zin_n (by omega) (by decide))))) ?_
  rw [e10]
  by_cases s19_0 : nI kd = nI 1
  · skip
    refine Zs_sw [(nI 1, 56), (nI 2, 61), (nI 3, 64), (nI 4, 69), (nI 5, 79), (nI 6, 96)] 101 hX (by decide +kernel) (by decide +kernel) (t := 56) (if_pos s19_0) ?_
    obtain rfl : kd = 1 := Zeq (by omega) (by decide) s19_0
    refine Zgo hX 3 rfl (by first | exact True.intro | (dsimp only [ZallP]; and_intros <;> (first | decide | ((try simp only [pk_mul, nI_add]); exact Zin_n (by omega) (by decide))))) ?_
    refine Zs_ret hX hE rfl ⟨rfl, rfl⟩
  by_cases s19_1 : nI kd = nI 2
  · skip
    refine Zs_sw [(nI 1, 56), (nI 2, 61), (nI 3, 64), (nI 4, 69), (nI 5, 79), (nI 6, 96)] 101 hX (by decide +kernel) (by decide +kernel) (t := 61) ((if_neg s19_0).trans (if_pos s19_1)) ?_
    obtain rfl : kd = 2 := Zeq (by omega) (by decide) s19_1
    refine Zgo hX 1 rfl (by first | exact True.intro | (dsimp only [ZallP]; and_intros <;> (first | decide | ((try simp only [pk_mul, nI_add]); exact Zin_n (by omega) (by decide))))) ?_
    refine Zs_ret hX hE rfl ⟨rfl, rfl⟩
  by_cases s19_2 : nI kd = nI 3
  · skip
    refine Zs_sw [(nI 1, 56), (nI 2, 61), (nI 3, 64), (nI 4, 69), (nI 5, 79), (nI 6, 96)] 101 hX (by decide +kernel) (by decide +kernel) (t := 64) ((if_neg s19_0).trans ((if_neg s19_1).trans (if_pos s19_2))) ?_
    obtain rfl : kd = 3 := Zeq (by omega) (by decide) s19_2
    refine Zgo hX 3 rfl (by first | exact True.intro | (dsimp only [ZallP]; and_intros <;> (first | decide | ((try simp only [pk_mul, nI_add]); exact Zin_n (by omega) (by decide))))) ?_
    refine Zs_ret hX hE rfl ⟨rfl, rfl⟩
  by_cases s19_3 : nI kd = nI 4
  · skip
    refine Zs_sw [(nI 1, 56), (nI 2, 61), (nI 3, 64), (nI 4, 69), (nI 5, 79), (nI 6, 96)] 101 hX (by decide +kernel) (by decide +kernel) (t := 69) ((if_neg s19_0).trans ((if_neg s19_1).trans ((if_neg s19_2).trans (if_pos s19_3)))) ?_
    obtain rfl : kd = 4 := Zeq (by omega) (by decide) s19_3
    refine Zgo hX 7 rfl (by first | exact True.intro | (dsimp only [ZallP]; and_intros <;> (first | decide | ((try simp only [pk_mul, nI_add]); exact Zin_n (by omega) (by decide))))) ?_
    refine Zs_ret hX hE rfl ⟨by rw [r10]; rfl, rfl⟩
  by_cases s19_4 : nI kd = nI 5
  · skip
    refine Zs_sw [(nI 1, 56), (nI 2, 61), (nI 3, 64), (nI 4, 69), (nI 5, 79), (nI 6, 96)] 101 hX (by decide +kernel) (by decide +kernel) (t := 79) ((if_neg s19_0).trans ((if_neg s19_1).trans ((if_neg s19_2).trans ((if_neg s19_3).trans (if_pos s19_4))))) ?_
    obtain rfl : kd = 5 := Zeq (by omega) (by decide) s19_4
    refine Zgo hX 4 rfl (by first | exact True.intro | (dsimp only [ZallP]; and_intros <;> (first | decide | ((try simp only [pk_mul, nI_add]); exact Zin_n (by omega) (by decide))))) ?_
    refine Zs_ine hX (List.cons_ne_nil _ _) (fun h83 => ?_) (fun h83 => ?_)
    · skip
      refine Zgo hX 3 rfl (by first | exact True.intro | (dsimp only [ZallP]; and_intros <;> (first | decide | ((try simp only [pk_mul, nI_add]); exact Zin_n (by omega) (by decide))))) ?_
      refine Zs_ret hX hE rfl ⟨by first | (simp only [Zsaid]; exact congrArg (fun z => some (Value.int z)) (if_pos h83).symm) | (simp only [Zsaid]; exact congrArg (fun z => some (Value.int z)) (if_neg h83).symm), rfl⟩
    · skip
      refine Zgo hX 2 rfl (by first | exact True.intro | (dsimp only [ZallP]; and_intros <;> (first | decide | ((try simp only [pk_mul, nI_add]); exact Zin_n (by omega) (by decide))))) ?_
      refine Zs_ret hX hE rfl ⟨by first | (simp only [Zsaid]; exact congrArg (fun z => some (Value.int z)) (if_pos h83).symm) | (simp only [Zsaid]; exact congrArg (fun z => some (Value.int z)) (if_neg h83).symm), rfl⟩
  by_cases s19_5 : nI kd = nI 6
  · skip
    refine Zs_sw [(nI 1, 56), (nI 2, 61), (nI 3, 64), (nI 4, 69), (nI 5, 79), (nI 6, 96)] 101 hX (by decide +kernel) (by decide +kernel) (t := 96) ((if_neg s19_0).trans ((if_neg s19_1).trans ((if_neg s19_2).trans ((if_neg s19_3).trans ((if_neg s19_4).trans (if_pos s19_5)))))) ?_
    obtain rfl : kd = 6 := Zeq (by omega) (by decide) s19_5
    refine Zgo hX 3 rfl (by first | exact True.intro | (dsimp only [ZallP]; and_intros <;> (first | decide | ((try simp only [pk_mul, nI_add]); exact Zin_n (by omega) (by decide))))) ?_
    refine Zs_ret hX hE rfl ⟨rfl, rfl⟩
  refine Zs_sw [(nI 1, 56), (nI 2, 61), (nI 3, 64), (nI 4, 69), (nI 5, 79), (nI 6, 96)] 101 hX (by decide +kernel) (by decide +kernel) (t := 101) ((if_neg s19_0).trans ((if_neg s19_1).trans ((if_neg s19_2).trans ((if_neg s19_3).trans ((if_neg s19_4).trans (if_neg s19_5)))))) ?_
  have z19_0 : kd ≠ 1 := Zne (by omega) (by decide) s19_0
  have z19_1 : kd ≠ 2 := Zne (by omega) (by decide) s19_1
  have z19_2 : kd ≠ 3 := Zne (by omega) (by decide) s19_2
  have z19_3 : kd ≠ 4 := Zne (by omega) (by decide) s19_3
  have z19_4 : kd ≠ 5 := Zne (by omega) (by decide) s19_4
  have z19_5 : kd ≠ 6 := Zne (by omega) (by decide) s19_5
  refine Zgo hX 1 rfl (by first | exact True.intro | (dsimp only [ZallP]; and_intros <;> (first | decide | ((try simp only [pk_mul, nI_add]); exact Zin_n (by omega) (by decide))))) ?_
  refine Zs_ret hX hE rfl ⟨?_, rfl⟩
  obtain rfl : kd = 0 := by omega
  rfl

set_option maxRecDepth 20000 in
theorem s_saidOf (kd m : Nat) (w t : Int32) (M : Zmem) (hkd : kd ≤ 6) (hm : m ≤ 9) : ZC 75 0 [.ref 53, .int (nI kd), .int (nI m), .int w, .int t] M (fun r M' => r = some (.int (Zsaid kd m w t (M 54 2))) ∧ M = M') := by
  refine ZC_of Zt75 Zk75 (Nat.le_of_ble_eq_true rfl) (by decide) rfl (fun X hX hE => ?_)
  refine Zgo hX 7 rfl (by first | exact True.intro | (dsimp only [ZallP]; and_intros <;> (first | decide | ((try simp only [pk_mul, nI_add]); exact Zin_n (by omega) (by decide))))) ?_
  by_cases s9_0 : nI kd = nI 1
  · skip
    refine Zs_sw [(nI 1, 48), (nI 2, 53), (nI 3, 60), (nI 4, 65), (nI 5, 72), (nI 6, 102)] 107 hX (by decide +kernel) (by decide +kernel) (t := 48) (if_pos s9_0) ?_
    obtain rfl : kd = 1 := Zeq (by omega) (by decide) s9_0
    refine Zgo hX 3 rfl (by first | exact True.intro | (dsimp only [ZallP]; and_intros <;> (first | decide | ((try simp only [pk_mul, nI_add]); exact Zin_n (by omega) (by decide))))) ?_
    refine Zs_ret hX hE rfl ⟨rfl, rfl⟩
  by_cases s9_1 : nI kd = nI 2
  · skip
    refine Zs_sw [(nI 1, 48), (nI 2, 53), (nI 3, 60), (nI 4, 65), (nI 5, 72), (nI 6, 102)] 107 hX (by decide +kernel) (by decide +kernel) (t := 53) ((if_neg s9_0).trans (if_pos s9_1)) ?_
    obtain rfl : kd = 2 := Zeq (by omega) (by decide) s9_1
    refine Zgo hX 5 rfl (by first | exact True.intro | (dsimp only [ZallP]; and_intros <;> (first | decide | ((try simp only [pk_mul, nI_add]); exact Zin_n (by omega) (by decide))))) ?_
    refine Zs_ret hX hE rfl ⟨rfl, rfl⟩
  by_cases s9_2 : nI kd = nI 3
  · skip
    refine Zs_sw [(nI 1, 48), (nI 2, 53), (nI 3, 60), (nI 4, 65), (nI 5, 72), (nI 6, 102)] 107 hX (by decide +kernel) (by decide +kernel) (t := 60) ((if_neg s9_0).trans ((if_neg s9_1).trans (if_pos s9_2))) ?_
    obtain rfl : kd = 3 := Zeq (by omega) (by decide) s9_2
    refine Zgo hX 3 rfl (by first | exact True.intro | (dsimp only [ZallP]; and_intros <;> (first | decide | ((try simp only [pk_mul, nI_add]); exact Zin_n (by omega) (by decide))))) ?_
    refine Zs_ret hX hE rfl ⟨rfl, rfl⟩
  by_cases s9_3 : nI kd = nI 4
  · skip
    refine Zs_sw [(nI 1, 48), (nI 2, 53), (nI 3, 60), (nI 4, 65), (nI 5, 72), (nI 6, 102)] 107 hX (by decide +kernel) (by decide +kernel) (t := 65) ((if_neg s9_0).trans ((if_neg s9_1).trans ((if_neg s9_2).trans (if_pos s9_3)))) ?_
    obtain rfl : kd = 4 := Zeq (by omega) (by decide) s9_3
    refine Zgo hX 5 rfl (by first | exact True.intro | (dsimp only [ZallP]; and_intros <;> (first | decide | ((try simp only [pk_mul, nI_add]); exact Zin_n (by omega) (by decide))))) ?_
    refine Zs_ret hX hE rfl ⟨rfl, rfl⟩
  by_cases s9_4 : nI kd = nI 5
  · skip
    refine Zs_sw [(nI 1, 48), (nI 2, 53), (nI 3, 60), (nI 4, 65), (nI 5, 72), (nI 6, 102)] 107 hX (by decide +kernel) (by decide +kernel) (t := 72) ((if_neg s9_0).trans ((if_neg s9_1).trans ((if_neg s9_2).trans ((if_neg s9_3).trans (if_pos s9_4))))) ?_
    obtain rfl : kd = 5 := Zeq (by omega) (by decide) s9_4
    refine Zgo hX 7 rfl (by first | exact True.intro | (dsimp only [ZallP]; and_intros <;> (first | decide | ((try simp only [pk_mul, nI_add]); exact Zin_n (by omega) (by decide))))) ?_
    refine Zs_ine hX (List.cons_ne_nil _ _) (fun h81 => ?_) (fun h81 => ?_)
    · skip
      refine Zgo hX 7 rfl (by first | exact True.intro | (dsimp only [ZallP]; and_intros <;> (first | decide | ((try simp only [pk_mul, nI_add]); exact Zin_n (by omega) (by decide))))) ?_
      refine Zs_ret hX hE rfl ⟨by first | (simp only [Zsaid]; exact congrArg (fun z => some (Value.int z)) (if_pos h81).symm) | (simp only [Zsaid]; exact congrArg (fun z => some (Value.int z)) (if_neg h81).symm), rfl⟩
    · skip
      refine Zgo hX 6 rfl (by first | exact True.intro | (dsimp only [ZallP]; and_intros <;> (first | decide | ((try simp only [pk_mul, nI_add]); exact Zin_n (by omega) (by decide))))) ?_
      refine Zs_ret hX hE rfl ⟨by first | (simp only [Zsaid]; exact congrArg (fun z => some (Value.int z)) (if_pos h81).symm) | (simp only [Zsaid]; exact congrArg (fun z => some (Value.int z)) (if_neg h81).symm), rfl⟩
  by_cases s9_5 : nI kd = nI 6
  · skip
    refine Zs_sw [(nI 1, 48), (nI 2, 53), (nI 3, 60), (nI 4, 65), (nI 5, 72), (nI 6, 102)] 107 hX (by decide +kernel) (by decide +kernel) (t := 102) ((if_neg s9_0).trans ((if_neg s9_1).trans ((if_neg s9_2).trans ((if_neg s9_3).trans ((if_neg s9_4).trans (if_pos s9_5)))))) ?_
    obtain rfl : kd = 6 := Zeq (by omega) (by decide) s9_5
    refine Zgo hX 3 rfl (by first | exact True.intro | (dsimp only [ZallP]; and_intros <;> (first | decide | ((try simp only [pk_mul, nI_add]); exact Zin_n (by omega) (by decide))))) ?_
    refine Zs_ret hX hE rfl ⟨rfl, rfl⟩
  refine Zs_sw [(nI 1, 48), (nI 2, 53), (nI 3, 60), (nI 4, 65), (nI 5, 72), (nI 6, 102)] 107 hX (by decide +kernel) (by decide +kernel) (t := 107) ((if_neg s9_0).trans ((if_neg s9_1).trans ((if_neg s9_2).trans ((if_neg s9_3).trans ((if_neg s9_4).trans (if_neg s9_5)))))) ?_
  have z9_0 : kd ≠ 1 := Zne (by omega) (by decide) s9_0
  have z9_1 : kd ≠ 2 := Zne (by omega) (by decide) s9_1
  have z9_2 : kd ≠ 3 := Zne (by omega) (by decide) s9_2
  have z9_3 : kd ≠ 4 := Zne (by omega) (by decide) s9_3
  have z9_4 : kd ≠ 5 := Zne (by omega) (by decide) s9_4
  have z9_5 : kd ≠ 6 := Zne (by omega) (by decide) s9_5
  refine Zgo hX 1 rfl (by first | exact True.intro | (dsimp only [ZallP]; and_intros <;> (first | decide | ((try simp only [pk_mul, nI_add]); exact Zin_n (by omega) (by decide))))) ?_
  refine Zs_ret hX hE rfl ⟨?_, rfl⟩
  obtain rfl : kd = 0 := by omega
  rfl

set_option maxRecDepth 20000 in
theorem k_bends (kd m : Nat) (M : Zmem) (hkd : kd ≤ 6) (hm : m ≤ 9) : ZC 146 0 [.int (nI kd), .int (nI m)] M (fun r M' => r = some (.int (Zbend kd m)) ∧ M = M') := by
  refine ZC_of Zt146 Zk146 (Nat.le_of_ble_eq_true rfl) (by decide) rfl (fun X hX hE => ?_)
  have r3 : nI m - nI m / nI 3 * nI 3 = nI (m % 3) := pk_rem (by omega) (by decide) (by decide)
  refine Zgo hX 7 rfl (by first | exact True.intro | (dsimp only [ZallP]; and_intros <;> (first | decide | ((try simp only [pk_mul, nI_add]); exact Zin_n (by omega) (by decide))))) ?_
  by_cases s7_0 : nI kd = nI 1
  · skip
    refine Zs_sw [(nI 1, 40), (nI 4, 42), (nI 6, 46)] 48 hX (by decide +kernel) (by decide +kernel) (t := 40) (if_pos s7_0) ?_
    obtain rfl : kd = 1 := Zeq (by omega) (by decide) s7_0
    refine Zgo hX 1 rfl (by first | exact True.intro | (dsimp only [ZallP]; and_intros <;> (first | decide | ((try simp only [pk_mul, nI_add]); exact Zin_n (by omega) (by decide))))) ?_
    refine Zs_ret hX hE rfl ⟨by rw [r3]; rfl, rfl⟩
  by_cases s7_1 : nI kd = nI 4
  · skip
    refine Zs_sw [(nI 1, 40), (nI 4, 42), (nI 6, 46)] 48 hX (by decide +kernel) (by decide +kernel) (t := 42) ((if_neg s7_0).trans (if_pos s7_1)) ?_
    obtain rfl : kd = 4 := Zeq (by omega) (by decide) s7_1
    refine Zgo hX 3 rfl (by first | exact True.intro | (dsimp only [ZallP]; and_intros <;> (first | decide | ((try simp only [pk_mul, nI_add]); exact Zin_n (by omega) (by decide))))) ?_
    refine Zs_ret hX hE rfl ⟨by rw [r3]; rfl, rfl⟩
  by_cases s7_2 : nI kd = nI 6
  · skip
    refine Zs_sw [(nI 1, 40), (nI 4, 42), (nI 6, 46)] 48 hX (by decide +kernel) (by decide +kernel) (t := 46) ((if_neg s7_0).trans ((if_neg s7_1).trans (if_pos s7_2))) ?_
    obtain rfl : kd = 6 := Zeq (by omega) (by decide) s7_2
    refine Zgo hX 1 rfl (by first | exact True.intro | (dsimp only [ZallP]; and_intros <;> (first | decide | ((try simp only [pk_mul, nI_add]); exact Zin_n (by omega) (by decide))))) ?_
    refine Zs_ret hX hE rfl ⟨rfl, rfl⟩
  refine Zs_sw [(nI 1, 40), (nI 4, 42), (nI 6, 46)] 48 hX (by decide +kernel) (by decide +kernel) (t := 48) ((if_neg s7_0).trans ((if_neg s7_1).trans (if_neg s7_2))) ?_
  have z7_0 : kd ≠ 1 := Zne (by omega) (by decide) s7_0
  have z7_1 : kd ≠ 4 := Zne (by omega) (by decide) s7_1
  have z7_2 : kd ≠ 6 := Zne (by omega) (by decide) s7_2
  refine Zgo hX 1 rfl (by first | exact True.intro | (dsimp only [ZallP]; and_intros <;> (first | decide | ((try simp only [pk_mul, nI_add]); exact Zin_n (by omega) (by decide))))) ?_
  refine Zs_ret hX hE rfl ⟨?_, rfl⟩
  obtain h0 | h0 | h0 | h0 : kd = 0 ∨ kd = 2 ∨ kd = 3 ∨ kd = 5 := by omega
  all_goals (subst h0; rfl)

set_option maxRecDepth 20000 in
theorem s_bendsAs (kd m : Nat) (M : Zmem) (hkd : kd ≤ 6) (hm : m ≤ 9) : ZC 81 0 [.int (nI kd), .int (nI m)] M (fun r M' => r = some (.int (Zbend kd m)) ∧ M = M') := by
  refine ZC_of Zt81 Zk81 (Nat.le_of_ble_eq_true rfl) (by decide) rfl (fun X hX hE => ?_)
  have r3 : nI m - nI m / nI 3 * nI 3 = nI (m % 3) := pk_rem (by omega) (by decide) (by decide)
  refine Zgo hX 1 rfl (by first | exact True.intro | (dsimp only [ZallP]; and_intros <;> (first | decide | ((try simp only [pk_mul, nI_add]); exact Zin_n (by omega) (by decide))))) ?_
  by_cases s1_0 : nI kd = nI 1
  · skip
    refine Zs_sw [(nI 1, 36), (nI 4, 42), (nI 6, 50)] 52 hX (by decide +kernel) (by decide +kernel) (t := 36) (if_pos s1_0) ?_
    obtain rfl : kd = 1 := Zeq (by omega) (by decide) s1_0
    refine Zgo hX 5 rfl (by first | exact True.intro | (dsimp only [ZallP]; and_intros <;> (first | decide | ((try simp only [pk_mul, nI_add]); exact Zin_n (by omega) (by decide))))) ?_
    refine Zs_ret hX hE rfl ⟨by rw [r3]; rfl, rfl⟩
  by_cases s1_1 : nI kd = nI 4
  · skip
    refine Zs_sw [(nI 1, 36), (nI 4, 42), (nI 6, 50)] 52 hX (by decide +kernel) (by decide +kernel) (t := 42) ((if_neg s1_0).trans (if_pos s1_1)) ?_
    obtain rfl : kd = 4 := Zeq (by omega) (by decide) s1_1
    refine Zgo hX 7 rfl (by first | exact True.intro | (dsimp only [ZallP]; and_intros <;> (first | decide | ((try simp only [pk_mul, nI_add]); exact Zin_n (by omega) (by decide))))) ?_
    refine Zs_ret hX hE rfl ⟨by rw [r3]; rfl, rfl⟩
  by_cases s1_2 : nI kd = nI 6
  · skip
    refine Zs_sw [(nI 1, 36), (nI 4, 42), (nI 6, 50)] 52 hX (by decide +kernel) (by decide +kernel) (t := 50) ((if_neg s1_0).trans ((if_neg s1_1).trans (if_pos s1_2))) ?_
    obtain rfl : kd = 6 := Zeq (by omega) (by decide) s1_2
    refine Zgo hX 1 rfl (by first | exact True.intro | (dsimp only [ZallP]; and_intros <;> (first | decide | ((try simp only [pk_mul, nI_add]); exact Zin_n (by omega) (by decide))))) ?_
    refine Zs_ret hX hE rfl ⟨rfl, rfl⟩
  refine Zs_sw [(nI 1, 36), (nI 4, 42), (nI 6, 50)] 52 hX (by decide +kernel) (by decide +kernel) (t := 52) ((if_neg s1_0).trans ((if_neg s1_1).trans (if_neg s1_2))) ?_
  have z1_0 : kd ≠ 1 := Zne (by omega) (by decide) s1_0
  have z1_1 : kd ≠ 4 := Zne (by omega) (by decide) s1_1
  have z1_2 : kd ≠ 6 := Zne (by omega) (by decide) s1_2
  refine Zgo hX 1 rfl (by first | exact True.intro | (dsimp only [ZallP]; and_intros <;> (first | decide | ((try simp only [pk_mul, nI_add]); exact Zin_n (by omega) (by decide))))) ?_
  refine Zs_ret hX hE rfl ⟨?_, rfl⟩
  obtain h0 | h0 | h0 | h0 : kd = 0 ∨ kd = 2 ∨ kd = 3 ∨ kd = 5 := by omega
  all_goals (subst h0; rfl)

set_option maxRecDepth 20000 in
theorem k_above (v : Int32) (M : Zmem) : ZC 143 1 [.int v] M (fun r M' => (∃ x : Int32, r = some (.int x) ∧ ((∃ kd, kd ≤ 6 ∧ v = nI kd ∧ x = Zabv kd) ∨ (¬ (nI 0 ≤ v ∧ v ≤ nI 6) ∧ x = -(nI 1)))) ∧ M = M') := by
  refine ZC_of Zt143 Zk143 (Nat.le_of_ble_eq_true rfl) (by decide) rfl (fun X hX hE => ?_)
  refine Zgo hX 3 rfl (by first | exact True.intro | (dsimp only [ZallP]; and_intros <;> (first | decide | ((try simp only [pk_mul, nI_add]); exact Zin_n (by omega) (by decide))))) ?_
  refine Zs_calls hX (List.cons_ne_nil _ _) (by decide) (k_within _ _ _ _) (by decide) rfl rfl (by decide) (Nat.le_of_ble_eq_true rfl) (fun r M' hc => ?_)
  rcases hc with ⟨⟨rfl, hb⟩ | ⟨rfl, hb⟩, rfl⟩
  · skip
    refine Zs_eq hX (List.cons_ne_nil _ _) (fun q => absurd q (by decide)) (fun _ => ?_)
    obtain ⟨kd, hkd, rfl⟩ := Zbt_ex (by decide) hb
    refine Zgo hX 4 rfl (Zin_n (by omega) (by decide)) ?_
    refine Zs_ret hX hE rfl ⟨⟨_, rfl, by first | exact Or.inl ⟨kd, hkd, rfl, by rw [Zcl_n (by omega)]; rfl⟩ | exact Or.inr ⟨hb, rfl⟩⟩, rfl⟩
  · skip
    refine Zs_eq hX (List.cons_ne_nil _ _) (fun _ => ?_) (fun q => absurd rfl q)
    refine Zgo hX 1 rfl (by first | exact True.intro | (dsimp only [ZallP]; and_intros <;> (first | decide | ((try simp only [pk_mul, nI_add]); exact Zin_n (by omega) (by decide))))) ?_
    refine Zs_ret hX hE rfl ⟨⟨_, rfl, by first | exact Or.inl ⟨kd, hkd, rfl, by rw [Zcl_n (by omega)]; rfl⟩ | exact Or.inr ⟨hb, rfl⟩⟩, rfl⟩

set_option maxRecDepth 20000 in
theorem s_above (v : Int32) (M : Zmem) : ZC 114 0 [.int v] M (fun r M' => r = some (.int (if v = nI 4 then nI 1 else if v = nI 5 then nI 2 else nI 0)) ∧ M = M') := by
  refine ZC_of Zt114 Zk114 (Nat.le_of_ble_eq_true rfl) (by decide) rfl (fun X hX hE => ?_)
  refine Zgo hX 2 rfl (by first | exact True.intro | (dsimp only [ZallP]; and_intros <;> (first | decide | ((try simp only [pk_mul, nI_add]); exact Zin_n (by omega) (by decide))))) ?_
  refine Zs_ine hX (List.cons_ne_nil _ _) (fun h1 => ?_) (fun h1 => ?_)
  · skip
    refine Zgo hX 2 rfl (by first | exact True.intro | (dsimp only [ZallP]; and_intros <;> (first | decide | ((try simp only [pk_mul, nI_add]); exact Zin_n (by omega) (by decide))))) ?_
    refine Zs_ine hX (List.cons_ne_nil _ _) (fun h2 => ?_) (fun h2 => ?_)
    · skip
      refine Zgo hX 1 rfl (by first | exact True.intro | (dsimp only [ZallP]; and_intros <;> (first | decide | ((try simp only [pk_mul, nI_add]); exact Zin_n (by omega) (by decide))))) ?_
      refine Zs_ret hX hE rfl ⟨by first | rw [if_pos h1] | rw [if_neg h1, if_pos h2] | rw [if_neg h1, if_neg h2], rfl⟩
    · skip
      refine Zgo hX 2 rfl (by first | exact True.intro | (dsimp only [ZallP]; and_intros <;> (first | decide | ((try simp only [pk_mul, nI_add]); exact Zin_n (by omega) (by decide))))) ?_
      refine Zs_ret hX hE rfl ⟨by first | rw [if_pos h1] | rw [if_neg h1, if_pos h2] | rw [if_neg h1, if_neg h2], rfl⟩
  · skip
    refine Zgo hX 2 rfl (by first | exact True.intro | (dsimp only [ZallP]; and_intros <;> (first | decide | ((try simp only [pk_mul, nI_add]); exact Zin_n (by omega) (by decide))))) ?_
    refine Zs_ret hX hE rfl ⟨by first | rw [if_pos h1] | rw [if_neg h1, if_pos h2] | rw [if_neg h1, if_neg h2], rfl⟩

set_option maxRecDepth 20000 in
theorem k_draw (M : Zmem) : ZC 178 0 [.ref 1] M (fun r M' => r = some (.int ((M 1 10 * nI 1103515245 + nI 12345).toUInt32 >>> ((nI 8).toUInt32 &&& Int32.toUInt32 31)).toInt32) ∧ Zu M 1 10 (M 1 10 * nI 1103515245 + nI 12345) = M') := by
  refine ZC_of Zt178 Zk178 (Nat.le_of_ble_eq_true rfl) (by decide) rfl (fun X hX hE => ?_)
  refine Zgo hX 12 rfl (by first | exact True.intro | (dsimp only [ZallP]; and_intros <;> (first | decide | ((try simp only [pk_mul, nI_add]); exact Zin_n (by omega) (by decide))))) ?_
  refine Zs_ret hX hE rfl ⟨by rw [Zu_k, if_pos ⟨rfl, rfl⟩], rfl⟩

set_option maxRecDepth 20000 in
theorem s_draw (M : Zmem) : ZC 84 0 [.ref 53] M (fun r M' => r = some (.int ((M 54 4 * nI 1103515245 + nI 12345).toUInt32 >>> ((nI 8).toUInt32 &&& Int32.toUInt32 31)).toInt32) ∧ Zu M 54 4 (M 54 4 * nI 1103515245 + nI 12345) = M') := by
  refine ZC_of Zt84 Zk84 (Nat.le_of_ble_eq_true rfl) (by decide) rfl (fun X hX hE => ?_)
  refine Zgo hX 18 rfl (by first | exact True.intro | (dsimp only [ZallP]; and_intros <;> (first | decide | ((try simp only [pk_mul, nI_add]); exact Zin_n (by omega) (by decide))))) ?_
  refine Zs_ret hX hE rfl ⟨by rw [Zcl_n (by decide), Zu_k, if_pos ⟨rfl, rfl⟩], by rw [Zcl_n (by decide)]⟩
