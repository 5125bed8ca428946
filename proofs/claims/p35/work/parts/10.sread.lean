-- the reference reads
def Zst (c_z : Nat → Nat) (n_z u_z : Nat) : Prop := (∀ i_z, n_z ≤ i_z → c_z i_z = 256) ∧ (∀ i_z, i_z < n_z → c_z i_z < 256) ∧ n_z ≤ 60 ∧ u_z < 2
def Zspf (c_z : Nat → Nat) (n_z u_z p_z : Nat) (M : Zmem) : Prop := (Zst c_z n_z u_z ∧ p_z ≤ n_z) ∧ M 54 5 = nI n_z ∧ M 53 7 = nI u_z ∧ M 53 4 = nI p_z ∧ ∀ i_z, i_z < n_z → M 54 (334 + i_z) = nI (c_z i_z)
def Zsp (c_z : Nat → Nat) (n_z u_z o_z p_z st : Nat) (M : Zmem) : Prop := Zspf c_z n_z u_z p_z M ∧ M 53 5 = nI (5 - o_z) ∧ M 53 6 = nI st
def Zssg (L : List Zitm) (f_z : Nat → Int32) (st : Nat) : Prop := ∀ i_z, i_z < L.length → f_z (2 * (st + i_z)) = (L.getD i_z (0, 0)).1 ∧ f_z (2 * (st + i_z) + 1) = (L.getD i_z (0, 0)).2
def Zsq (c_z : Nat → Nat) (n_z u_z o_z st : Nat) (M M' : Zmem) (r_z : Zrs) : Prop := Sc M M' ∧ Zspf c_z n_z u_z r_z.2.1 M' ∧ (r_z.1 = true → Zsp c_z n_z u_z o_z r_z.2.1 (st + r_z.2.2.length) M' ∧ (∀ i_z, i_z < 2 * st → M' 57 i_z = M 57 i_z) ∧ Zssg r_z.2.2 (M' 57) st)
def Zsc (k_z fr : Nat) (c_z : Nat → Nat) (n_z u_z o_z : Nat) (R : Nat → Zrs) : Prop := ∀ (p_z st : Nat) (M : Zmem), Zsp c_z n_z u_z o_z p_z st M → st ≤ p_z → ZC k_z fr [.ref 53] M (fun r_z M' => Zb r_z ((R p_z).1 = true) ∧ Zsq c_z n_z u_z o_z st M M' (R p_z))
theorem Zssg_app {st : Nat} {A B : List Zitm} {f_z : Nat → Int32} (h1_z : Zssg A f_z st) (h2_z : Zssg B f_z (st + A.length)) : Zssg (A ++ B) f_z st := by
  intro i_z hi_z
  rw [Zap_getD]
  split
  · rename_i h_z; exact h1_z i_z h_z
  · rename_i h_z
    rw [List.length_append] at hi_z
    have := h2_z (i_z - A.length) (by omega)
    rw [show st + A.length + (i_z - A.length) = st + i_z by omega] at this
    exact this
theorem Zssg_kp {st : Nat} {A : List Zitm} {f_z f' : Nat → Int32} (h1_z : Zssg A f_z st) (h_z : ∀ i_z, i_z < 2 * (st + A.length) → f' i_z = f_z i_z) : Zssg A f' st := by
  intro i_z hi_z
  rw [h_z _ (by omega), h_z _ (by omega)]
  exact h1_z i_z hi_z
theorem Zssg_1 {st : Nat} {a_z : Zitm} {f_z : Nat → Int32} (h_z : f_z (2 * st) = a_z.1 ∧ f_z (2 * st + 1) = a_z.2) : Zssg [a_z] f_z st := by
  intro i_z hi_z
  obtain rfl : i_z = 0 := by simpa using hi_z
  exact h_z
/-- one step laid -/
def Zs1m (M : Zmem) (st : Nat) (w_z v_z : Int32) : Zmem := Zu (Zu (Zu M 57 (2 * st) w_z) 57 (2 * st + 1) v_z) 53 6 (nI (st + 1))
theorem Zs1m_k (M : Zmem) (st : Nat) (w_z v_z : Int32) (i_z : Nat) : Zs1m M st w_z v_z 57 i_z = if i_z = 2 * st + 1 then v_z else if i_z = 2 * st then w_z else M 57 i_z := by
  show (Zu (Zu M 57 (2 * st) w_z) 57 (2 * st + 1) v_z) 57 i_z = _
  rw [Zu_k, Zu_k]
  by_cases h_z : i_z = 2 * st + 1
  · rw [if_pos ⟨rfl, h_z⟩, if_pos h_z]
  · rw [if_neg (fun q_z => h_z q_z.2), if_neg h_z]
    by_cases h2_z : i_z = 2 * st
    · rw [if_pos ⟨rfl, h2_z⟩, if_pos h2_z]
    · rw [if_neg (fun q_z => h2_z q_z.2), if_neg h2_z]
theorem Zs1m_sc (M : Zmem) (st : Nat) (w_z v_z : Int32) : Sc M (Zs1m M st w_z v_z) := (((Sc.rf M).u _ rfl).u _ rfl).u _ rfl
section ZSP
variable {c_z : Nat → Nat} {n_z u_z o_z p_z st : Nat} {M M1 M2 M3 : Zmem}
theorem Zspf.at (h_z : Zspf c_z n_z u_z p_z M) (hp : p_z < n_z) : Zspf c_z n_z u_z (p_z + 1) (Zu M 53 4 (nI (p_z + 1))) := by
  obtain ⟨⟨h1_z, -⟩, h3_z, h4_z, -, h6_z⟩ := h_z
  exact ⟨⟨h1_z, hp⟩, h3_z, h4_z, rfl, h6_z⟩
theorem Zsp.at (h_z : Zsp c_z n_z u_z o_z p_z st M) (hp : p_z < n_z) : Zsp c_z n_z u_z o_z (p_z + 1) st (Zu M 53 4 (nI (p_z + 1))) := ⟨h_z.1.at hp, h_z.2.1, h_z.2.2⟩
theorem Zspf.s1 (h_z : Zspf c_z n_z u_z p_z M) (w_z v_z : Int32) : Zspf c_z n_z u_z p_z (Zs1m M st w_z v_z) := by
  obtain ⟨h1_z, h3_z, h4_z, h5_z, h6_z⟩ := h_z
  exact ⟨h1_z, h3_z, h4_z, h5_z, h6_z⟩
theorem Zsp.s1 (h_z : Zsp c_z n_z u_z o_z p_z st M) (w_z v_z : Int32) : Zsp c_z n_z u_z o_z p_z (st + 1) (Zs1m M st w_z v_z) := ⟨h_z.1.s1 w_z v_z, h_z.2.1, rfl⟩
theorem Zssg_s1 (M : Zmem) (st : Nat) (a_z : Zitm) : Zssg [a_z] (Zs1m M st a_z.1 a_z.2 57) st := Zssg_1 ⟨by rw [Zs1m_k, if_neg (by omega), if_pos rfl], by rw [Zs1m_k, if_pos rfl]⟩
theorem Zsq_1 {q_z : Nat} (a_z : Zitm) (hs_z : Sc M M1) (hc_z : ∀ i_z, M1 57 i_z = M 57 i_z) (h_z : Zsp c_z n_z u_z o_z q_z st M1) : Zsq c_z n_z u_z o_z st M (Zs1m M1 st a_z.1 a_z.2) (true, q_z, [a_z]) := by
  refine ⟨hs_z.tr (Zs1m_sc _ _ _ _), h_z.1.s1 _ _, fun _ => ⟨h_z.s1 _ _, fun i_z hi_z => ?_, Zssg_s1 _ _ _⟩⟩
  rw [Zs1m_k, if_neg (by omega), if_neg (by omega), hc_z]
theorem Zsq_f {q_z : Nat} {L : List Zitm} (hs_z : Sc M M1) (h_z : Zspf c_z n_z u_z q_z M1) : Zsq c_z n_z u_z o_z st M M1 (false, q_z, L) := ⟨hs_z, h_z, fun q_z => by cases q_z⟩
theorem Zsq_f2 {s2_z o2 : Nat} {r_z : Zrs} (hs_z : Sc M M1) (h_z : Zsq c_z n_z u_z o2 s2_z M1 M2 r_z) : Zsq c_z n_z u_z o_z st M M2 (false, r_z.2.1, []) := ⟨hs_z.tr h_z.1, h_z.2.1, fun q_z => by cases q_z⟩
theorem Zsq_pre {r_z : Zrs} (hs_z : Sc M M1) (hc_z : ∀ i_z, M1 57 i_z = M 57 i_z) (h_z : Zsq c_z n_z u_z o_z st M1 M2 r_z) : Zsq c_z n_z u_z o_z st M M2 r_z := by
  obtain ⟨h1_z, h3_z, h4_z⟩ := h_z
  refine ⟨hs_z.tr h1_z, h3_z, fun q_z => ?_⟩
  obtain ⟨g1, g2, g3⟩ := h4_z q_z
  exact ⟨g1, fun i_z hi_z => by rw [g2 i_z hi_z, hc_z], g3⟩
theorem Zsq_2 {r_z : Zrs} (h_z : Zsq c_z n_z u_z o_z st M M1 r_z) (hr_z : r_z.1 = true) : Zsq c_z n_z u_z o_z st M (Zs1m M1 (st + r_z.2.2.length) (nI 2) (nI 0)) (true, r_z.2.1, r_z.2.2 ++ [(nI 2, nI 0)]) := by
  obtain ⟨h1_z, h3_z, h4_z⟩ := h_z
  obtain ⟨g1, g2, g3⟩ := h4_z hr_z
  refine ⟨h1_z.tr (Zs1m_sc _ _ _ _), h3_z.s1 _ _, fun _ => ⟨?_, fun i_z hi_z => ?_, ?_⟩⟩
  · rw [List.length_append, ← Nat.add_assoc]
    exact g1.s1 _ _
  · rw [Zs1m_k, if_neg (by omega), if_neg (by omega), g2 i_z hi_z]
  · exact Zssg_app (Zssg_kp g3 (fun i_z hi_z => by rw [Zs1m_k, if_neg (by omega), if_neg (by omega)])) (Zssg_s1 M1 (st + r_z.2.2.length) (nI 2, nI 0))
theorem Zsq_3 {r_z : Zrs} {s_z q1_z : Nat} {L : List Zitm} (h_z : Zsq c_z n_z u_z o_z st M M1 (true, q1_z, L)) (hs_z : Sc M1 M2) (hc_z : ∀ i_z, M2 57 i_z = M1 57 i_z) (h' : Zsq c_z n_z u_z o_z (st + L.length) M2 M3 r_z) (hr_z : r_z.1 = true) :
    Zsq c_z n_z u_z o_z st M (Zs1m M3 (st + L.length + r_z.2.2.length) (nI 3) (nI s_z)) (true, r_z.2.1, L ++ (r_z.2.2 ++ [(nI 3, nI s_z)])) := by
  obtain ⟨h1_z, h3_z, h4_z⟩ := h_z
  obtain ⟨-, g2, g3⟩ := h4_z rfl
  obtain ⟨f1_z, f2_z, f3⟩ := h'
  obtain ⟨e1_z, e2_z, e3_z⟩ := f3 hr_z
  refine ⟨((h1_z.tr hs_z).tr f1_z).tr (Zs1m_sc _ _ _ _), f2_z.s1 _ _, fun _ => ⟨?_, fun i_z hi_z => ?_, ?_⟩⟩
  · rw [List.length_append, List.length_append, ← Nat.add_assoc, ← Nat.add_assoc]
    exact e1_z.s1 _ _
  · rw [Zs1m_k, if_neg (by omega), if_neg (by omega), e2_z i_z (by omega), hc_z, g2 i_z hi_z]
  · refine Zssg_app (Zssg_kp g3 (fun i_z hi_z => ?_)) (Zssg_app (Zssg_kp e3_z (fun i_z hi_z => ?_)) (Zssg_s1 M3 (st + L.length + r_z.2.2.length) (nI 3, nI s_z)))
    · show _ = M1 57 i_z
      have hi2 : i_z < 2 * (st + L.length) := hi_z
      rw [Zs1m_k, if_neg (by omega), if_neg (by omega), e2_z i_z hi2, hc_z]
    · rw [Zs1m_k, if_neg (by omega), if_neg (by omega)]
end ZSP
theorem Zlop_0 {nx : Nat → Zrs} {is : Nat → Bool} {c_z : Nat → Nat} (k_z p_z : Nat) (L : List Zitm) (h_z : ¬ is (c_z p_z) = true) : Zlop nx is c_z k_z p_z L = (true, p_z, L) := by
  cases k_z with
  | zero => rfl
  | succ k_z => rw [Zlop, if_neg h_z]
theorem Zsc_a53 (M : Zmem) (v_z : Int32) : Sc M (Zu M 53 4 v_z) := (Sc.rf M).u _ rfl
theorem Zspf.op {c_z : Nat → Nat} {n_z u_z p_z : Nat} {M : Zmem} (h_z : Zspf c_z n_z u_z p_z M) (hp : p_z < n_z) (v_z : Int32) : Zspf c_z n_z u_z (p_z + 1) (Zu (Zu M 53 5 v_z) 53 4 (nI (p_z + 1))) := by
  obtain ⟨⟨h1_z, -⟩, h3_z, h4_z, -, h6_z⟩ := h_z
  exact ⟨⟨h1_z, hp⟩, h3_z, h4_z, rfl, h6_z⟩
theorem Zspf.op2 {c_z : Nat → Nat} {n_z u_z p_z : Nat} {M : Zmem} (h_z : Zspf c_z n_z u_z p_z M) (v_z : Int32) : Zspf c_z n_z u_z p_z (Zu M 53 5 v_z) := by
  obtain ⟨h1_z, h3_z, h4_z, h5_z, h6_z⟩ := h_z
  exact ⟨h1_z, h3_z, h4_z, h5_z, h6_z⟩
theorem Zlvl_s {c_z : Nat → Nat} {pc : Nat → Zrs} (j_z p_z : Nat) : Zlvl c_z pc (j_z + 1) p_z = if (Zlvl c_z pc j_z p_z).1 = true then Zlop (Zlvl c_z pc j_z) (Zis (4 - j_z)) c_z (if j_z = 2 then 1 else 60) (Zlvl c_z pc j_z p_z).2.1 (Zlvl c_z pc j_z p_z).2.2 else (false, (Zlvl c_z pc j_z p_z).2.1, []) := rfl

set_option maxRecDepth 20000 in
set_option maxHeartbeats 1000000 in
theorem s_look (c_z : Nat → Nat) (n_z u_z p_z : Nat) (M : Zmem) (hz_z : Zspf c_z n_z u_z p_z M) : ZC 60 0 [.ref 53] M (fun r_z M' => r_z = some (.int (Zlk (c_z p_z))) ∧ M = M') := by
  refine ZC_of Zt60 Zk60 (Nat.le_of_ble_eq_true rfl) (by decide) rfl (fun X hX hE => ?_)
  obtain ⟨⟨hst0, hpn⟩, h5_z, hus, hat, htp⟩ := id hz_z
  obtain ⟨hcn, hcb, hn60, hu2⟩ := id hst0
  refine Zgo hX 6 rfl (Zin_n (by decide) (by decide)) ?_
  simp only [Zcl_n, Nat.reducePow, Nat.reduceLT]
  rw [hat, h5_z]
  refine Zs_ige hX (List.cons_ne_nil _ _) (fun h10_z => ?_) (fun h10_z => ?_)
  · have hge := (Zn_le (by omega) (by omega)).mp h10_z
    refine Zgo hX 1 rfl True.intro ?_
    refine Zs_ret hX hE rfl ⟨by rw [hcn p_z hge]; rfl, rfl⟩
  · have hlt : p_z < n_z := (Nat.lt_or_ge p_z n_z).elim id (fun q_z => absurd ((Zn_le (by omega) (by omega)).mpr q_z) h10_z)
    refine Zgo hX 8 rfl (by show vp_in _ _; rw [hat, nI_add]; exact Zin_n (by omega) (by decide)) ?_
    rw [hat, nI_add, Zcl_n (show 334 + p_z < 2 ^ 31 by omega), htp p_z hlt]
    refine Zs_ret hX hE rfl ⟨by rw [Zlk, if_pos (hcb p_z hlt)], rfl⟩

set_option maxRecDepth 20000 in
set_option maxHeartbeats 1000000 in
theorem s_isName (m_z u_z : Nat) (M : Zmem) (hus : M 53 7 = nI u_z) (hu2 : u_z < 2) : ZC 61 0 [.ref 53, .int (Zlk m_z)] M (fun r_z M' => Zb r_z (Znmb u_z m_z = true) ∧ M = M') := by
  refine ZC_of Zt61 Zk61 (Nat.le_of_ble_eq_true rfl) (by decide) rfl (fun X hX hE => ?_)
  refine Zgo hX 2 rfl True.intro ?_
  refine Zs_ieq hX (List.cons_ne_nil _ _) (fun h3_z => ?_) (fun h3_z => ?_)
  · have e_z := (Zlk_eq (by decide)).mp h3_z
    refine Zgo hX 1 rfl True.intro ?_
    refine Zs_retz hX hE rfl (by first | exact Or.inl rfl | exact Or.inr rfl) ⟨Or.inl ⟨rfl, Znmb_iff.mpr (by unfold Znm; omega)⟩, rfl⟩
  · have n1_z : m_z ≠ 119 := fun q_z => h3_z ((Zlk_eq (by decide)).mpr q_z)
    refine Zgo hX 2 rfl True.intro ?_
    refine Zs_ine hX (List.cons_ne_nil _ _) (fun h9_z => ?_) (fun h9_z => ?_)
    · have n2_z : m_z ≠ 116 := fun q_z => h9_z ((Zlk_eq (by decide)).mpr q_z)
      refine Zgo hX 3 rfl True.intro ?_
      rw [hus]
      refine Zs_ne hX (List.cons_ne_nil _ _) (fun h19_z => ?_) (fun h19_z => ?_)
      · have e0_z : u_z ≠ 0 := fun q_z => h19_z (by rw [q_z]; rfl)
        obtain rfl : u_z = 1 := by omega
        refine Zgo hX 1 rfl True.intro ?_
        refine Zs_ine hX (List.cons_ne_nil _ _) (fun h29_z => ?_) (fun h29_z => ?_)
        · have n3 : m_z ≠ 107 := fun q_z => h29_z ((Zlk_eq (by decide)).mpr q_z)
          refine Zgo hX 1 rfl True.intro ?_
          refine Zs_retz hX hE rfl (by first | exact Or.inl rfl | exact Or.inr rfl) ⟨Or.inr ⟨rfl, fun q_z => by have := Znmb_iff.mp q_z; unfold Znm at this; omega⟩, rfl⟩
        · have e_z := (Zlk_eq (by decide)).mp h29_z
          refine Zgo hX 2 rfl True.intro ?_
          refine Zs_retz hX hE rfl (by first | exact Or.inl rfl | exact Or.inr rfl) ⟨Or.inl ⟨rfl, Znmb_iff.mpr (by unfold Znm; omega)⟩, rfl⟩
      · obtain rfl : u_z = 0 := by have := (Zn_eq (a_z := u_z) (b_z := 0) (by omega) (by decide)).mp h19_z; exact this
        refine Zgo hX 2 rfl True.intro ?_
        refine Zs_ine hX (List.cons_ne_nil _ _) (fun h29_z => ?_) (fun h29_z => ?_)
        · have n3 : m_z ≠ 98 := fun q_z => h29_z ((Zlk_eq (by decide)).mpr q_z)
          refine Zgo hX 1 rfl True.intro ?_
          refine Zs_retz hX hE rfl (by first | exact Or.inl rfl | exact Or.inr rfl) ⟨Or.inr ⟨rfl, fun q_z => by have := Znmb_iff.mp q_z; unfold Znm at this; omega⟩, rfl⟩
        · have e_z := (Zlk_eq (by decide)).mp h29_z
          refine Zgo hX 2 rfl True.intro ?_
          refine Zs_retz hX hE rfl (by first | exact Or.inl rfl | exact Or.inr rfl) ⟨Or.inl ⟨rfl, Znmb_iff.mpr (by unfold Znm; omega)⟩, rfl⟩
    · have e_z := (Zlk_eq (by decide)).mp h9_z
      refine Zgo hX 1 rfl True.intro ?_
      refine Zs_retz hX hE rfl (by first | exact Or.inl rfl | exact Or.inr rfl) ⟨Or.inl ⟨rfl, Znmb_iff.mpr (by unfold Znm; omega)⟩, rfl⟩

set_option maxRecDepth 20000 in
set_option maxHeartbeats 1000000 in
theorem s_step1 (st : Nat) (w_z v_z : Int32) (M : Zmem) (hs_z : M 53 6 = nI st) (h61_z : st ≤ 61) : ZC 62 0 [.ref 53, .int w_z, .int v_z] M (fun r_z M' => r_z = none ∧ Zs1m M st w_z v_z = M') := by
  refine ZC_of Zt62 Zk62 (Nat.le_of_ble_eq_true rfl) (by decide) rfl (fun X hX hE => ?_)
  refine Zgo hX 7 rfl True.intro ?_
  rw [hs_z, pk_mul]
  refine Zgo hX 1 rfl (Zin_n (by omega) (by decide)) ?_
  rw [Zcl_n (show 2 * st < 2 ^ 31 by omega)]
  refine Zgo hX 9 rfl True.intro ?_
  rw [show (Zu M 57 (2 * st) w_z) 53 6 = nI st from hs_z, pk_mul, nI_add]
  refine Zgo hX 1 rfl (Zin_n (by omega) (by decide)) ?_
  rw [Zcl_n (show 2 * st + 1 < 2 ^ 31 by omega)]
  refine Zgo hX 6 rfl True.intro ?_
  rw [show (Zu (Zu M 57 (2 * st) w_z) 57 (2 * st + 1) v_z) 53 6 = nI st from hs_z, nI_add]
  refine Zs_retv hX hE rfl ⟨rfl, rfl⟩

set_option maxRecDepth 20000 in
set_option maxHeartbeats 1000000 in
theorem s_opens (o_z p_z : Nat) (M : Zmem) (ho : o_z ≤ 5) (hop : M 53 5 = nI (5 - o_z)) (hat : M 53 4 = nI p_z) : ZC 68 0 [.ref 53] M (fun r_z M' => (∃ o1, o_z = o1 + 1 ∧ r_z = some (.int (nI 1)) ∧ Zu (Zu M 53 5 (nI (5 - o1))) 53 4 (nI (p_z + 1)) = M') ∨ (o_z = 0 ∧ r_z = some (.int (nI 0)) ∧ M = M')) := by
  refine ZC_of Zt68 Zk68 (Nat.le_of_ble_eq_true rfl) (by decide) rfl (fun X hX hE => ?_)
  refine Zgo hX 3 rfl True.intro ?_
  rw [hop]
  refine Zs_ine hX (List.cons_ne_nil _ _) (fun h5_z => ?_) (fun h5_z => ?_)
  · obtain ⟨o1, rfl⟩ : ∃ o1, o_z = o1 + 1 := ⟨o_z - 1, by
      rcases Nat.eq_zero_or_pos o_z with h_z | h_z
      · subst h_z; exact absurd rfl h5_z
      · omega⟩
    refine Zgo hX 6 rfl True.intro ?_
    rw [hop, nI_add, show 5 - (o1 + 1) + 1 = 5 - o1 by omega]
    refine Zgo hX 6 rfl True.intro ?_
    rw [show (Zu M 53 5 (nI (5 - o1))) 53 4 = nI p_z from hat, nI_add]
    refine Zgo hX 1 rfl True.intro ?_
    refine Zs_retz hX hE rfl (by first | exact Or.inl rfl | exact Or.inr rfl) (Or.inl ⟨o1, rfl, rfl, rfl⟩)
  · obtain rfl : o_z = 0 := by have := Zeq (by omega) (by decide) h5_z; omega
    refine Zgo hX 1 rfl True.intro ?_
    refine Zs_retz hX hE rfl (by first | exact Or.inl rfl | exact Or.inr rfl) (Or.inr ⟨rfl, rfl, rfl⟩)

set_option maxRecDepth 20000 in
set_option maxHeartbeats 1000000 in
theorem s_product (c_z : Nat → Nat) (n_z u_z o_z p_z st : Nat) (M : Zmem) (hz_z : Zsp c_z n_z u_z o_z p_z st M) (hsp : st ≤ p_z) (pc : Nat → Zrs) (F : Nat) (hg_z : ∀ p_z, p_z ≤ n_z → Zgd u_z n_z p_z (Zlvl c_z pc 0 p_z)) (hn_z : Zsc 69 F c_z n_z u_z o_z (Zlvl c_z pc 0)) : ZC 67 (F + 1) [.ref 53] M (fun r_z M' => Zb r_z ((Zlvl c_z pc 1 p_z).1 = true) ∧ Zsq c_z n_z u_z o_z st M M' (Zlvl c_z pc 1 p_z)) := by
  refine ZC_of Zt67 Zk67 (Nat.le_of_ble_eq_true rfl) (by decide) rfl (fun X hX hE => ?_)
  obtain ⟨⟨⟨hst0, hpn⟩, h5_z, hus, hat, htp⟩, hop, hsz⟩ := id hz_z
  obtain ⟨hcn, hcb, hn60, hu2⟩ := id hst0
  have L9 : ∀ (q_z k_z p1 : Nat) (L : List Zitm) (M1 : Zmem), 60 - p1 < q_z → Zsq c_z n_z u_z o_z st M M1 (true, p1, L) → st + L.length ≤ p1 → p1 ≤ n_z → 60 ≤ p1 + k_z → Zlvl c_z pc 1 p_z = Zlop (Zlvl c_z pc 0) (Zis 4) c_z k_z p1 L → ZP X Zt67 (Zsf Zt67 9) [(0, .ref 53)] [] M1 := by
    intro q_z
    induction q_z with
    | zero => intro k_z p1 L M1 hq_z; exact absurd hq_z (Nat.not_lt_zero _)
    | succ q_z ih_z =>
      intro k_z p1 L M1 hlq hq_z hst hp1 hk_z hr_z
      have hz1 := (hq_z.2.2 rfl).1
      have LB : ∀ (l : List (Nat × Value)), Zis 4 (c_z p1) = true → l = [(0, .ref 53)] → ZP X Zt67 (Zsf Zt67 36) l [] M1 := by
        rintro l his rfl
        have hsg := Zis_sg (by decide) his
        have hsl := Zsg_lt hsg
        have hlt : p1 < n_z := Zc_lt hcn (by omega)
        obtain ⟨k1_z, rfl⟩ : ∃ k1_z, k_z = k1_z + 1 := ⟨k_z - 1, by omega⟩
        rw [Zlop, if_pos his] at hr_z
        refine Zgo hX 1 rfl True.intro ?_
        refine Zs_callv hX (List.cons_ne_nil _ _) (s_look c_z n_z u_z _ _ hz1.1) (by first | decide | omega) (by decide) rfl rfl rfl (by decide) (Nat.le_of_ble_eq_true rfl) (fun r_z M' hc_z => ?_)
        obtain ⟨rfl, rfl⟩ := hc_z
        refine Zgo hX 8 rfl True.intro ?_
        rw [hz1.1.2.2.2.1, nI_add]
        obtain ⟨g1, g2, g3⟩ := hg_z (p1 + 1) hlt
        refine Zs_callv hX (List.cons_ne_nil _ _) (hn_z (p1 + 1) (st + L.length) _ (hz1.at hlt) (by omega)) (by first | decide | omega) (by decide) rfl rfl rfl (by decide) (Nat.le_of_ble_eq_true rfl) (fun r_z M' hc_z => ?_)
        rcases hc_z with ⟨⟨rfl, hb_z⟩ | ⟨rfl, hb_z⟩, hq2⟩
        · refine Zs_ne hX (List.cons_ne_nil _ _) (fun _ => ?_) (fun q_z => False.elim (by revert q_z; decide))
          rw [if_pos hb_z] at hr_z
          obtain ⟨g4, g5, -⟩ := g3 hb_z
          refine Zgo hX 3 rfl True.intro ?_
          rw [Zlk_lt (show c_z p1 < 128 by omega)]
          refine Zs_callv hX (List.cons_ne_nil _ _) (s_step1 _ _ _ _ ((hq2.2.2 hb_z).1.2.2) (by omega)) (by first | decide | omega) (by decide) rfl rfl rfl (by decide) (Nat.le_of_ble_eq_true rfl) (fun r_z M' hc_z => ?_)
          obtain ⟨rfl, rfl⟩ := hc_z
          have hq3 := Zsq_3 (s_z := c_z p1) hq_z (Zsc_a53 _ _) (fun _ => rfl) hq2 hb_z
          refine Zgo hX 1 rfl True.intro ?_
          refine Zs_sub (l' := [(0, .ref 53)]) rfl ?_
          exact ih_z k1_z _ _ _ (by omega) hq3 (by simp; omega) g2 (by omega) hr_z
        · refine Zs_ne hX (List.cons_ne_nil _ _) (fun q_z => False.elim (by revert q_z; decide)) (fun _ => ?_)
          rw [if_neg hb_z] at hr_z
          refine Zgo hX 1 rfl True.intro ?_
          refine Zs_retz hX hE rfl (by first | exact Or.inl rfl | exact Or.inr rfl) ⟨Or.inr ⟨rfl, by rw [hr_z]; exact Bool.false_ne_true⟩, ?_⟩
          rw [hr_z]
          exact Zsq_f2 (hq_z.1.tr (Zsc_a53 _ _)) hq2
      refine Zgo hX 1 rfl True.intro ?_
      refine Zs_callv hX (List.cons_ne_nil _ _) (s_look c_z n_z u_z _ _ hz1.1) (by first | decide | omega) (by decide) rfl rfl rfl (by decide) (Nat.le_of_ble_eq_true rfl) (fun r_z M' hc_z => ?_)
      obtain ⟨rfl, rfl⟩ := hc_z
      refine Zgo hX 1 rfl True.intro ?_
      refine Zs_ieq hX (List.cons_ne_nil _ _) (fun h15_z => ?_) (fun h15_z => ?_)
      · exact LB _ (by rw [(Zlk_eq (by decide)).mp h15_z]; rfl) rfl
      · refine Zgo hX 1 rfl True.intro ?_
        refine Zs_callv hX (List.cons_ne_nil _ _) (s_look c_z n_z u_z _ _ hz1.1) (by first | decide | omega) (by decide) rfl rfl rfl (by decide) (Nat.le_of_ble_eq_true rfl) (fun r_z M' hc_z => ?_)
        obtain ⟨rfl, rfl⟩ := hc_z
        refine Zgo hX 1 rfl True.intro ?_
        refine Zs_ieq hX (List.cons_ne_nil _ _) (fun h24_z => ?_) (fun h24_z => ?_)
        · exact LB _ (by rw [(Zlk_eq (by decide)).mp h24_z]; rfl) rfl
        · refine Zgo hX 1 rfl True.intro ?_
          refine Zs_callv hX (List.cons_ne_nil _ _) (s_look c_z n_z u_z _ _ hz1.1) (by first | decide | omega) (by decide) rfl rfl rfl (by decide) (Nat.le_of_ble_eq_true rfl) (fun r_z M' hc_z => ?_)
          obtain ⟨rfl, rfl⟩ := hc_z
          refine Zgo hX 1 rfl True.intro ?_
          refine Zs_ine hX (List.cons_ne_nil _ _) (fun h33_z => ?_) (fun h33_z => ?_)
          · have his : ¬ Zis 4 (c_z p1) = true := (fun q_z => by simp only [Zis, Bool.or_eq_true, beq_iff_eq] at q_z; rcases q_z with (q_z | q_z) | q_z <;> first | exact h15_z ((Zlk_eq (by decide)).mpr q_z) | exact h24_z ((Zlk_eq (by decide)).mpr q_z) | exact h33_z ((Zlk_eq (by decide)).mpr q_z))
            have hr2 := hr_z.trans (Zlop_0 k_z p1 L his)
            refine Zgo hX 1 rfl True.intro ?_
            refine Zs_retz hX hE rfl (by first | exact Or.inl rfl | exact Or.inr rfl) ⟨Or.inl ⟨rfl, by rw [hr2]⟩, by rw [hr2]; exact hq_z⟩
          · exact LB _ (by rw [(Zlk_eq (by decide)).mp h33_z]; rfl) rfl
  refine Zgo hX 1 rfl True.intro ?_
  refine Zs_callv hX (List.cons_ne_nil _ _) (hn_z p_z st _ hz_z hsp) (by first | decide | omega) (by decide) rfl rfl rfl (by decide) (Nat.le_of_ble_eq_true rfl) (fun r_z M' hc_z => ?_)
  rcases hc_z with ⟨⟨rfl, hb_z⟩ | ⟨rfl, hb_z⟩, hq_z⟩
  · refine Zs_ne hX (List.cons_ne_nil _ _) (fun _ => ?_) (fun q_z => False.elim (by revert q_z; decide))
    obtain ⟨g1, g2, g3⟩ := hg_z p_z hpn
    obtain ⟨g4, g5, -⟩ := g3 hb_z
    have hqq : Zsq c_z n_z u_z o_z st M M' (true, (Zlvl c_z pc 0 p_z).2.1, (Zlvl c_z pc 0 p_z).2.2) := ⟨hq_z.1, hq_z.2.1, fun _ => hq_z.2.2 hb_z⟩
    exact L9 61 60 _ _ _ (by omega) hqq (by omega) g2 (by omega) (by rw [Zlvl_s 0 p_z, if_pos hb_z]; rfl)
  · refine Zs_ne hX (List.cons_ne_nil _ _) (fun q_z => False.elim (by revert q_z; decide)) (fun _ => ?_)
    have hr_z : Zlvl c_z pc 1 p_z = (false, (Zlvl c_z pc 0 p_z).2.1, []) := by rw [Zlvl_s 0 p_z, if_neg hb_z]
    refine Zgo hX 1 rfl True.intro ?_
    refine Zs_retz hX hE rfl (by first | exact Or.inl rfl | exact Or.inr rfl) ⟨Or.inr ⟨rfl, by rw [hr_z]; exact Bool.false_ne_true⟩, ?_⟩
    rw [hr_z]
    exact Zsq_f2 (Sc.rf M) hq_z

set_option maxRecDepth 20000 in
set_option maxHeartbeats 1000000 in
theorem s_sum (c_z : Nat → Nat) (n_z u_z o_z p_z st : Nat) (M : Zmem) (hz_z : Zsp c_z n_z u_z o_z p_z st M) (hsp : st ≤ p_z) (pc : Nat → Zrs) (F : Nat) (hg_z : ∀ p_z, p_z ≤ n_z → Zgd u_z n_z p_z (Zlvl c_z pc 1 p_z)) (hn_z : Zsc 67 F c_z n_z u_z o_z (Zlvl c_z pc 1)) : ZC 66 (F + 1) [.ref 53] M (fun r_z M' => Zb r_z ((Zlvl c_z pc 2 p_z).1 = true) ∧ Zsq c_z n_z u_z o_z st M M' (Zlvl c_z pc 2 p_z)) := by
  refine ZC_of Zt66 Zk66 (Nat.le_of_ble_eq_true rfl) (by decide) rfl (fun X hX hE => ?_)
  obtain ⟨⟨⟨hst0, hpn⟩, h5_z, hus, hat, htp⟩, hop, hsz⟩ := id hz_z
  obtain ⟨hcn, hcb, hn60, hu2⟩ := id hst0
  have L9 : ∀ (q_z k_z p1 : Nat) (L : List Zitm) (M1 : Zmem), 60 - p1 < q_z → Zsq c_z n_z u_z o_z st M M1 (true, p1, L) → st + L.length ≤ p1 → p1 ≤ n_z → 60 ≤ p1 + k_z → Zlvl c_z pc 2 p_z = Zlop (Zlvl c_z pc 1) (Zis 3) c_z k_z p1 L → ZP X Zt66 (Zsf Zt66 9) [(0, .ref 53)] [] M1 := by
    intro q_z
    induction q_z with
    | zero => intro k_z p1 L M1 hq_z; exact absurd hq_z (Nat.not_lt_zero _)
    | succ q_z ih_z =>
      intro k_z p1 L M1 hlq hq_z hst hp1 hk_z hr_z
      have hz1 := (hq_z.2.2 rfl).1
      have LB : ∀ (l : List (Nat × Value)), Zis 3 (c_z p1) = true → l = [(0, .ref 53)] → ZP X Zt66 (Zsf Zt66 27) l [] M1 := by
        rintro l his rfl
        have hsg := Zis_sg (by decide) his
        have hsl := Zsg_lt hsg
        have hlt : p1 < n_z := Zc_lt hcn (by omega)
        obtain ⟨k1_z, rfl⟩ : ∃ k1_z, k_z = k1_z + 1 := ⟨k_z - 1, by omega⟩
        rw [Zlop, if_pos his] at hr_z
        refine Zgo hX 1 rfl True.intro ?_
        refine Zs_callv hX (List.cons_ne_nil _ _) (s_look c_z n_z u_z _ _ hz1.1) (by first | decide | omega) (by decide) rfl rfl rfl (by decide) (Nat.le_of_ble_eq_true rfl) (fun r_z M' hc_z => ?_)
        obtain ⟨rfl, rfl⟩ := hc_z
        refine Zgo hX 8 rfl True.intro ?_
        rw [hz1.1.2.2.2.1, nI_add]
        obtain ⟨g1, g2, g3⟩ := hg_z (p1 + 1) hlt
        refine Zs_callv hX (List.cons_ne_nil _ _) (hn_z (p1 + 1) (st + L.length) _ (hz1.at hlt) (by omega)) (by first | decide | omega) (by decide) rfl rfl rfl (by decide) (Nat.le_of_ble_eq_true rfl) (fun r_z M' hc_z => ?_)
        rcases hc_z with ⟨⟨rfl, hb_z⟩ | ⟨rfl, hb_z⟩, hq2⟩
        · refine Zs_ne hX (List.cons_ne_nil _ _) (fun _ => ?_) (fun q_z => False.elim (by revert q_z; decide))
          rw [if_pos hb_z] at hr_z
          obtain ⟨g4, g5, -⟩ := g3 hb_z
          refine Zgo hX 3 rfl True.intro ?_
          rw [Zlk_lt (show c_z p1 < 128 by omega)]
          refine Zs_callv hX (List.cons_ne_nil _ _) (s_step1 _ _ _ _ ((hq2.2.2 hb_z).1.2.2) (by omega)) (by first | decide | omega) (by decide) rfl rfl rfl (by decide) (Nat.le_of_ble_eq_true rfl) (fun r_z M' hc_z => ?_)
          obtain ⟨rfl, rfl⟩ := hc_z
          have hq3 := Zsq_3 (s_z := c_z p1) hq_z (Zsc_a53 _ _) (fun _ => rfl) hq2 hb_z
          refine Zgo hX 1 rfl True.intro ?_
          refine Zs_sub (l' := [(0, .ref 53)]) rfl ?_
          exact ih_z k1_z _ _ _ (by omega) hq3 (by simp; omega) g2 (by omega) hr_z
        · refine Zs_ne hX (List.cons_ne_nil _ _) (fun q_z => False.elim (by revert q_z; decide)) (fun _ => ?_)
          rw [if_neg hb_z] at hr_z
          refine Zgo hX 1 rfl True.intro ?_
          refine Zs_retz hX hE rfl (by first | exact Or.inl rfl | exact Or.inr rfl) ⟨Or.inr ⟨rfl, by rw [hr_z]; exact Bool.false_ne_true⟩, ?_⟩
          rw [hr_z]
          exact Zsq_f2 (hq_z.1.tr (Zsc_a53 _ _)) hq2
      refine Zgo hX 1 rfl True.intro ?_
      refine Zs_callv hX (List.cons_ne_nil _ _) (s_look c_z n_z u_z _ _ hz1.1) (by first | decide | omega) (by decide) rfl rfl rfl (by decide) (Nat.le_of_ble_eq_true rfl) (fun r_z M' hc_z => ?_)
      obtain ⟨rfl, rfl⟩ := hc_z
      refine Zgo hX 1 rfl True.intro ?_
      refine Zs_ieq hX (List.cons_ne_nil _ _) (fun h15_z => ?_) (fun h15_z => ?_)
      · exact LB _ (by rw [(Zlk_eq (by decide)).mp h15_z]; rfl) rfl
      · refine Zgo hX 1 rfl True.intro ?_
        refine Zs_callv hX (List.cons_ne_nil _ _) (s_look c_z n_z u_z _ _ hz1.1) (by first | decide | omega) (by decide) rfl rfl rfl (by decide) (Nat.le_of_ble_eq_true rfl) (fun r_z M' hc_z => ?_)
        obtain ⟨rfl, rfl⟩ := hc_z
        refine Zgo hX 1 rfl True.intro ?_
        refine Zs_ine hX (List.cons_ne_nil _ _) (fun h24_z => ?_) (fun h24_z => ?_)
        · have his : ¬ Zis 3 (c_z p1) = true := (fun q_z => by simp only [Zis, Bool.or_eq_true, beq_iff_eq] at q_z; rcases q_z with q_z | q_z <;> first | exact h15_z ((Zlk_eq (by decide)).mpr q_z) | exact h24_z ((Zlk_eq (by decide)).mpr q_z))
          have hr2 := hr_z.trans (Zlop_0 k_z p1 L his)
          refine Zgo hX 1 rfl True.intro ?_
          refine Zs_retz hX hE rfl (by first | exact Or.inl rfl | exact Or.inr rfl) ⟨Or.inl ⟨rfl, by rw [hr2]⟩, by rw [hr2]; exact hq_z⟩
        · exact LB _ (by rw [(Zlk_eq (by decide)).mp h24_z]; rfl) rfl
  refine Zgo hX 1 rfl True.intro ?_
  refine Zs_callv hX (List.cons_ne_nil _ _) (hn_z p_z st _ hz_z hsp) (by first | decide | omega) (by decide) rfl rfl rfl (by decide) (Nat.le_of_ble_eq_true rfl) (fun r_z M' hc_z => ?_)
  rcases hc_z with ⟨⟨rfl, hb_z⟩ | ⟨rfl, hb_z⟩, hq_z⟩
  · refine Zs_ne hX (List.cons_ne_nil _ _) (fun _ => ?_) (fun q_z => False.elim (by revert q_z; decide))
    obtain ⟨g1, g2, g3⟩ := hg_z p_z hpn
    obtain ⟨g4, g5, -⟩ := g3 hb_z
    have hqq : Zsq c_z n_z u_z o_z st M M' (true, (Zlvl c_z pc 1 p_z).2.1, (Zlvl c_z pc 1 p_z).2.2) := ⟨hq_z.1, hq_z.2.1, fun _ => hq_z.2.2 hb_z⟩
    exact L9 61 60 _ _ _ (by omega) hqq (by omega) g2 (by omega) (by rw [Zlvl_s 1 p_z, if_pos hb_z]; rfl)
  · refine Zs_ne hX (List.cons_ne_nil _ _) (fun q_z => False.elim (by revert q_z; decide)) (fun _ => ?_)
    have hr_z : Zlvl c_z pc 2 p_z = (false, (Zlvl c_z pc 1 p_z).2.1, []) := by rw [Zlvl_s 1 p_z, if_neg hb_z]
    refine Zgo hX 1 rfl True.intro ?_
    refine Zs_retz hX hE rfl (by first | exact Or.inl rfl | exact Or.inr rfl) ⟨Or.inr ⟨rfl, by rw [hr_z]; exact Bool.false_ne_true⟩, ?_⟩
    rw [hr_z]
    exact Zsq_f2 (Sc.rf M) hq_z

set_option maxRecDepth 20000 in
set_option maxHeartbeats 1000000 in
theorem s_compared (c_z : Nat → Nat) (n_z u_z o_z p_z st : Nat) (M : Zmem) (hz_z : Zsp c_z n_z u_z o_z p_z st M) (hsp : st ≤ p_z) (pc : Nat → Zrs) (F : Nat) (hg_z : ∀ p_z, p_z ≤ n_z → Zgd u_z n_z p_z (Zlvl c_z pc 2 p_z)) (hn_z : Zsc 66 F c_z n_z u_z o_z (Zlvl c_z pc 2)) : ZC 65 (F + 1) [.ref 53] M (fun r_z M' => Zb r_z ((Zlvl c_z pc 3 p_z).1 = true) ∧ Zsq c_z n_z u_z o_z st M M' (Zlvl c_z pc 3 p_z)) := by
  refine ZC_of Zt65 Zk65 (Nat.le_of_ble_eq_true rfl) (by decide) rfl (fun X hX hE => ?_)
  obtain ⟨⟨⟨hst0, hpn⟩, h5_z, hus, hat, htp⟩, hop, hsz⟩ := id hz_z
  obtain ⟨hcn, hcb, hn60, hu2⟩ := id hst0
  have L9 : ∀ (q_z k_z p1 : Nat) (L : List Zitm) (M1 : Zmem), 60 - p1 < q_z → Zsq c_z n_z u_z o_z st M M1 (true, p1, L) → st + L.length ≤ p1 → p1 ≤ n_z → k_z = 1 → Zlvl c_z pc 3 p_z = Zlop (Zlvl c_z pc 2) (Zis 2) c_z k_z p1 L → ZP X Zt65 (Zsf Zt65 9) [(0, .ref 53)] [] M1 := by
    intro q_z
    induction q_z with
    | zero => intro k_z p1 L M1 hq_z; exact absurd hq_z (Nat.not_lt_zero _)
    | succ q_z ih_z =>
      intro k_z p1 L M1 hlq hq_z hst hp1 hk_z hr_z
      have hz1 := (hq_z.2.2 rfl).1
      have LB : ∀ (l : List (Nat × Value)), Zis 2 (c_z p1) = true → (l = [(1, .int (Zlk (c_z p1))), (0, .ref 53)]) → ZP X Zt65 (Zsf Zt65 34) l [] M1 := by
        rintro l his rfl
        have hsg := Zis_sg (by decide) his
        have hsl := Zsg_lt hsg
        have hlt : p1 < n_z := Zc_lt hcn (by omega)
        obtain ⟨k1_z, rfl⟩ : ∃ k1_z, k_z = k1_z + 1 := ⟨k_z - 1, by omega⟩
        rw [Zlop, if_pos his] at hr_z
        refine Zgo hX 7 rfl True.intro ?_
        rw [hz1.1.2.2.2.1, nI_add]
        obtain ⟨g1, g2, g3⟩ := hg_z (p1 + 1) hlt
        refine Zs_callv hX (List.cons_ne_nil _ _) (hn_z (p1 + 1) (st + L.length) _ (hz1.at hlt) (by omega)) (by first | decide | omega) (by decide) rfl rfl rfl (by decide) (Nat.le_of_ble_eq_true rfl) (fun r_z M' hc_z => ?_)
        rcases hc_z with ⟨⟨rfl, hb_z⟩ | ⟨rfl, hb_z⟩, hq2⟩
        · refine Zs_ne hX (List.cons_ne_nil _ _) (fun _ => ?_) (fun q_z => False.elim (by revert q_z; decide))
          rw [if_pos hb_z] at hr_z
          obtain ⟨g4, g5, -⟩ := g3 hb_z
          refine Zgo hX 3 rfl True.intro ?_
          rw [Zlk_lt (show c_z p1 < 128 by omega)]
          refine Zs_callv hX (List.cons_ne_nil _ _) (s_step1 _ _ _ _ ((hq2.2.2 hb_z).1.2.2) (by omega)) (by first | decide | omega) (by decide) rfl rfl rfl (by decide) (Nat.le_of_ble_eq_true rfl) (fun r_z M' hc_z => ?_)
          obtain ⟨rfl, rfl⟩ := hc_z
          have hq3 := Zsq_3 (s_z := c_z p1) hq_z (Zsc_a53 _ _) (fun _ => rfl) hq2 hb_z
          refine Zgo hX 1 rfl True.intro ?_
          obtain rfl : k1_z = 0 := by omega
          rw [Zlop] at hr_z
          refine Zs_retz hX hE rfl (by first | exact Or.inl rfl | exact Or.inr rfl) ⟨Or.inl ⟨rfl, by rw [hr_z]⟩, by rw [hr_z]; exact hq3⟩
        · refine Zs_ne hX (List.cons_ne_nil _ _) (fun q_z => False.elim (by revert q_z; decide)) (fun _ => ?_)
          rw [if_neg hb_z] at hr_z
          refine Zgo hX 1 rfl True.intro ?_
          refine Zs_retz hX hE rfl (by first | exact Or.inl rfl | exact Or.inr rfl) ⟨Or.inr ⟨rfl, by rw [hr_z]; exact Bool.false_ne_true⟩, ?_⟩
          rw [hr_z]
          exact Zsq_f2 (hq_z.1.tr (Zsc_a53 _ _)) hq2
      refine Zgo hX 1 rfl True.intro ?_
      refine Zs_callv hX (List.cons_ne_nil _ _) (s_look c_z n_z u_z _ _ hz1.1) (by first | decide | omega) (by decide) rfl rfl rfl (by decide) (Nat.le_of_ble_eq_true rfl) (fun r_z M' hc_z => ?_)
      obtain ⟨rfl, rfl⟩ := hc_z
      refine Zgo hX 3 rfl True.intro ?_
      refine Zs_ieq hX (List.cons_ne_nil _ _) (fun h17_z => ?_) (fun h17_z => ?_)
      · exact LB _ (by rw [(Zlk_eq (by decide)).mp h17_z]; rfl) rfl
      · refine Zgo hX 2 rfl True.intro ?_
        refine Zs_ieq hX (List.cons_ne_nil _ _) (fun h23_z => ?_) (fun h23_z => ?_)
        · exact LB _ (by rw [(Zlk_eq (by decide)).mp h23_z]; rfl) rfl
        · refine Zgo hX 2 rfl True.intro ?_
          refine Zs_ieq hX (List.cons_ne_nil _ _) (fun h29_z => ?_) (fun h29_z => ?_)
          · exact LB _ (by rw [(Zlk_eq (by decide)).mp h29_z]; rfl) rfl
          · have his : ¬ Zis 2 (c_z p1) = true := (fun q_z => by simp only [Zis, Bool.or_eq_true, beq_iff_eq] at q_z; rcases q_z with (q_z | q_z) | q_z <;> first | exact h17_z ((Zlk_eq (by decide)).mpr q_z) | exact h23_z ((Zlk_eq (by decide)).mpr q_z) | exact h29_z ((Zlk_eq (by decide)).mpr q_z))
            have hr2 := hr_z.trans (Zlop_0 k_z p1 L his)
            refine Zgo hX 1 rfl True.intro ?_
            refine Zs_retz hX hE rfl (by first | exact Or.inl rfl | exact Or.inr rfl) ⟨Or.inl ⟨rfl, by rw [hr2]⟩, by rw [hr2]; exact hq_z⟩
  refine Zgo hX 1 rfl True.intro ?_
  refine Zs_callv hX (List.cons_ne_nil _ _) (hn_z p_z st _ hz_z hsp) (by first | decide | omega) (by decide) rfl rfl rfl (by decide) (Nat.le_of_ble_eq_true rfl) (fun r_z M' hc_z => ?_)
  rcases hc_z with ⟨⟨rfl, hb_z⟩ | ⟨rfl, hb_z⟩, hq_z⟩
  · refine Zs_ne hX (List.cons_ne_nil _ _) (fun _ => ?_) (fun q_z => False.elim (by revert q_z; decide))
    obtain ⟨g1, g2, g3⟩ := hg_z p_z hpn
    obtain ⟨g4, g5, -⟩ := g3 hb_z
    have hqq : Zsq c_z n_z u_z o_z st M M' (true, (Zlvl c_z pc 2 p_z).2.1, (Zlvl c_z pc 2 p_z).2.2) := ⟨hq_z.1, hq_z.2.1, fun _ => hq_z.2.2 hb_z⟩
    exact L9 61 1 _ _ _ (by omega) hqq (by omega) g2 rfl (by rw [Zlvl_s 2 p_z, if_pos hb_z]; rfl)
  · refine Zs_ne hX (List.cons_ne_nil _ _) (fun q_z => False.elim (by revert q_z; decide)) (fun _ => ?_)
    have hr_z : Zlvl c_z pc 3 p_z = (false, (Zlvl c_z pc 2 p_z).2.1, []) := by rw [Zlvl_s 2 p_z, if_neg hb_z]
    refine Zgo hX 1 rfl True.intro ?_
    refine Zs_retz hX hE rfl (by first | exact Or.inl rfl | exact Or.inr rfl) ⟨Or.inr ⟨rfl, by rw [hr_z]; exact Bool.false_ne_true⟩, ?_⟩
    rw [hr_z]
    exact Zsq_f2 (Sc.rf M) hq_z

set_option maxRecDepth 20000 in
set_option maxHeartbeats 1000000 in
theorem s_both (c_z : Nat → Nat) (n_z u_z o_z p_z st : Nat) (M : Zmem) (hz_z : Zsp c_z n_z u_z o_z p_z st M) (hsp : st ≤ p_z) (pc : Nat → Zrs) (F : Nat) (hg_z : ∀ p_z, p_z ≤ n_z → Zgd u_z n_z p_z (Zlvl c_z pc 3 p_z)) (hn_z : Zsc 65 F c_z n_z u_z o_z (Zlvl c_z pc 3)) : ZC 64 (F + 1) [.ref 53] M (fun r_z M' => Zb r_z ((Zlvl c_z pc 4 p_z).1 = true) ∧ Zsq c_z n_z u_z o_z st M M' (Zlvl c_z pc 4 p_z)) := by
  refine ZC_of Zt64 Zk64 (Nat.le_of_ble_eq_true rfl) (by decide) rfl (fun X hX hE => ?_)
  obtain ⟨⟨⟨hst0, hpn⟩, h5_z, hus, hat, htp⟩, hop, hsz⟩ := id hz_z
  obtain ⟨hcn, hcb, hn60, hu2⟩ := id hst0
  have L9 : ∀ (q_z k_z p1 : Nat) (L : List Zitm) (M1 : Zmem), 60 - p1 < q_z → Zsq c_z n_z u_z o_z st M M1 (true, p1, L) → st + L.length ≤ p1 → p1 ≤ n_z → 60 ≤ p1 + k_z → Zlvl c_z pc 4 p_z = Zlop (Zlvl c_z pc 3) (Zis 1) c_z k_z p1 L → ZP X Zt64 (Zsf Zt64 9) [(0, .ref 53)] [] M1 := by
    intro q_z
    induction q_z with
    | zero => intro k_z p1 L M1 hq_z; exact absurd hq_z (Nat.not_lt_zero _)
    | succ q_z ih_z =>
      intro k_z p1 L M1 hlq hq_z hst hp1 hk_z hr_z
      have hz1 := (hq_z.2.2 rfl).1
      have LB : ∀ (l : List (Nat × Value)), Zis 1 (c_z p1) = true → (l = [(0, .ref 53)]) → ZP X Zt64 (Zsf Zt64 18) l [] M1 := by
        rintro l his rfl
        have hsg := Zis_sg (by decide) his
        have hsl := Zsg_lt hsg
        have hlt : p1 < n_z := Zc_lt hcn (by omega)
        obtain ⟨k1_z, rfl⟩ : ∃ k1_z, k_z = k1_z + 1 := ⟨k_z - 1, by omega⟩
        rw [Zlop, if_pos his] at hr_z
        refine Zgo hX 7 rfl True.intro ?_
        rw [hz1.1.2.2.2.1, nI_add]
        obtain ⟨g1, g2, g3⟩ := hg_z (p1 + 1) hlt
        refine Zs_callv hX (List.cons_ne_nil _ _) (hn_z (p1 + 1) (st + L.length) _ (hz1.at hlt) (by omega)) (by first | decide | omega) (by decide) rfl rfl rfl (by decide) (Nat.le_of_ble_eq_true rfl) (fun r_z M' hc_z => ?_)
        rcases hc_z with ⟨⟨rfl, hb_z⟩ | ⟨rfl, hb_z⟩, hq2⟩
        · refine Zs_ne hX (List.cons_ne_nil _ _) (fun _ => ?_) (fun q_z => False.elim (by revert q_z; decide))
          rw [if_pos hb_z] at hr_z
          obtain ⟨g4, g5, -⟩ := g3 hb_z
          refine Zgo hX 3 rfl True.intro ?_
          rw [show nI 38 = nI (c_z p1) by have e_z : c_z p1 = 38 := (by simpa [Zis] using his); rw [e_z]]
          refine Zs_callv hX (List.cons_ne_nil _ _) (s_step1 _ _ _ _ ((hq2.2.2 hb_z).1.2.2) (by omega)) (by first | decide | omega) (by decide) rfl rfl rfl (by decide) (Nat.le_of_ble_eq_true rfl) (fun r_z M' hc_z => ?_)
          obtain ⟨rfl, rfl⟩ := hc_z
          have hq3 := Zsq_3 (s_z := c_z p1) hq_z (Zsc_a53 _ _) (fun _ => rfl) hq2 hb_z
          refine Zgo hX 1 rfl True.intro ?_
          refine Zs_sub (l' := [(0, .ref 53)]) rfl ?_
          exact ih_z k1_z _ _ _ (by omega) hq3 (by simp; omega) g2 (by omega) hr_z
        · refine Zs_ne hX (List.cons_ne_nil _ _) (fun q_z => False.elim (by revert q_z; decide)) (fun _ => ?_)
          rw [if_neg hb_z] at hr_z
          refine Zgo hX 1 rfl True.intro ?_
          refine Zs_retz hX hE rfl (by first | exact Or.inl rfl | exact Or.inr rfl) ⟨Or.inr ⟨rfl, by rw [hr_z]; exact Bool.false_ne_true⟩, ?_⟩
          rw [hr_z]
          exact Zsq_f2 (hq_z.1.tr (Zsc_a53 _ _)) hq2
      refine Zgo hX 1 rfl True.intro ?_
      refine Zs_callv hX (List.cons_ne_nil _ _) (s_look c_z n_z u_z _ _ hz1.1) (by first | decide | omega) (by decide) rfl rfl rfl (by decide) (Nat.le_of_ble_eq_true rfl) (fun r_z M' hc_z => ?_)
      obtain ⟨rfl, rfl⟩ := hc_z
      refine Zgo hX 1 rfl True.intro ?_
      refine Zs_ine hX (List.cons_ne_nil _ _) (fun h15_z => ?_) (fun h15_z => ?_)
      · have his : ¬ Zis 1 (c_z p1) = true := (fun q_z => by simp only [Zis, Bool.or_eq_true, beq_iff_eq] at q_z; first | exact h15_z ((Zlk_eq (by decide)).mpr q_z))
        have hr2 := hr_z.trans (Zlop_0 k_z p1 L his)
        refine Zgo hX 1 rfl True.intro ?_
        refine Zs_retz hX hE rfl (by first | exact Or.inl rfl | exact Or.inr rfl) ⟨Or.inl ⟨rfl, by rw [hr2]⟩, by rw [hr2]; exact hq_z⟩
      · exact LB _ (by rw [(Zlk_eq (by decide)).mp h15_z]; rfl) rfl
  refine Zgo hX 1 rfl True.intro ?_
  refine Zs_callv hX (List.cons_ne_nil _ _) (hn_z p_z st _ hz_z hsp) (by first | decide | omega) (by decide) rfl rfl rfl (by decide) (Nat.le_of_ble_eq_true rfl) (fun r_z M' hc_z => ?_)
  rcases hc_z with ⟨⟨rfl, hb_z⟩ | ⟨rfl, hb_z⟩, hq_z⟩
  · refine Zs_ne hX (List.cons_ne_nil _ _) (fun _ => ?_) (fun q_z => False.elim (by revert q_z; decide))
    obtain ⟨g1, g2, g3⟩ := hg_z p_z hpn
    obtain ⟨g4, g5, -⟩ := g3 hb_z
    have hqq : Zsq c_z n_z u_z o_z st M M' (true, (Zlvl c_z pc 3 p_z).2.1, (Zlvl c_z pc 3 p_z).2.2) := ⟨hq_z.1, hq_z.2.1, fun _ => hq_z.2.2 hb_z⟩
    exact L9 61 60 _ _ _ (by omega) hqq (by omega) g2 (by omega) (by rw [Zlvl_s 3 p_z, if_pos hb_z]; rfl)
  · refine Zs_ne hX (List.cons_ne_nil _ _) (fun q_z => False.elim (by revert q_z; decide)) (fun _ => ?_)
    have hr_z : Zlvl c_z pc 4 p_z = (false, (Zlvl c_z pc 3 p_z).2.1, []) := by rw [Zlvl_s 3 p_z, if_neg hb_z]
    refine Zgo hX 1 rfl True.intro ?_
    refine Zs_retz hX hE rfl (by first | exact Or.inl rfl | exact Or.inr rfl) ⟨Or.inr ⟨rfl, by rw [hr_z]; exact Bool.false_ne_true⟩, ?_⟩
    rw [hr_z]
    exact Zsq_f2 (Sc.rf M) hq_z

set_option maxRecDepth 20000 in
set_option maxHeartbeats 1000000 in
theorem s_whole (c_z : Nat → Nat) (n_z u_z o_z p_z st : Nat) (M : Zmem) (hz_z : Zsp c_z n_z u_z o_z p_z st M) (hsp : st ≤ p_z) (pc : Nat → Zrs) (F : Nat) (hg_z : ∀ p_z, p_z ≤ n_z → Zgd u_z n_z p_z (Zlvl c_z pc 4 p_z)) (hn_z : Zsc 64 F c_z n_z u_z o_z (Zlvl c_z pc 4)) : ZC 63 (F + 1) [.ref 53] M (fun r_z M' => Zb r_z ((Zlvl c_z pc 5 p_z).1 = true) ∧ Zsq c_z n_z u_z o_z st M M' (Zlvl c_z pc 5 p_z)) := by
  refine ZC_of Zt63 Zk63 (Nat.le_of_ble_eq_true rfl) (by decide) rfl (fun X hX hE => ?_)
  obtain ⟨⟨⟨hst0, hpn⟩, h5_z, hus, hat, htp⟩, hop, hsz⟩ := id hz_z
  obtain ⟨hcn, hcb, hn60, hu2⟩ := id hst0
  have L9 : ∀ (q_z k_z p1 : Nat) (L : List Zitm) (M1 : Zmem), 60 - p1 < q_z → Zsq c_z n_z u_z o_z st M M1 (true, p1, L) → st + L.length ≤ p1 → p1 ≤ n_z → 60 ≤ p1 + k_z → Zlvl c_z pc 5 p_z = Zlop (Zlvl c_z pc 4) (Zis 0) c_z k_z p1 L → ZP X Zt63 (Zsf Zt63 9) [(0, .ref 53)] [] M1 := by
    intro q_z
    induction q_z with
    | zero => intro k_z p1 L M1 hq_z; exact absurd hq_z (Nat.not_lt_zero _)
    | succ q_z ih_z =>
      intro k_z p1 L M1 hlq hq_z hst hp1 hk_z hr_z
      have hz1 := (hq_z.2.2 rfl).1
      have LB : ∀ (l : List (Nat × Value)), Zis 0 (c_z p1) = true → (l = [(0, .ref 53)]) → ZP X Zt63 (Zsf Zt63 18) l [] M1 := by
        rintro l his rfl
        have hsg := Zis_sg (by decide) his
        have hsl := Zsg_lt hsg
        have hlt : p1 < n_z := Zc_lt hcn (by omega)
        obtain ⟨k1_z, rfl⟩ : ∃ k1_z, k_z = k1_z + 1 := ⟨k_z - 1, by omega⟩
        rw [Zlop, if_pos his] at hr_z
        refine Zgo hX 7 rfl True.intro ?_
        rw [hz1.1.2.2.2.1, nI_add]
        obtain ⟨g1, g2, g3⟩ := hg_z (p1 + 1) hlt
        refine Zs_callv hX (List.cons_ne_nil _ _) (hn_z (p1 + 1) (st + L.length) _ (hz1.at hlt) (by omega)) (by first | decide | omega) (by decide) rfl rfl rfl (by decide) (Nat.le_of_ble_eq_true rfl) (fun r_z M' hc_z => ?_)
        rcases hc_z with ⟨⟨rfl, hb_z⟩ | ⟨rfl, hb_z⟩, hq2⟩
        · refine Zs_ne hX (List.cons_ne_nil _ _) (fun _ => ?_) (fun q_z => False.elim (by revert q_z; decide))
          rw [if_pos hb_z] at hr_z
          obtain ⟨g4, g5, -⟩ := g3 hb_z
          refine Zgo hX 3 rfl True.intro ?_
          rw [show nI 124 = nI (c_z p1) by have e_z : c_z p1 = 124 := (by simpa [Zis] using his); rw [e_z]]
          refine Zs_callv hX (List.cons_ne_nil _ _) (s_step1 _ _ _ _ ((hq2.2.2 hb_z).1.2.2) (by omega)) (by first | decide | omega) (by decide) rfl rfl rfl (by decide) (Nat.le_of_ble_eq_true rfl) (fun r_z M' hc_z => ?_)
          obtain ⟨rfl, rfl⟩ := hc_z
          have hq3 := Zsq_3 (s_z := c_z p1) hq_z (Zsc_a53 _ _) (fun _ => rfl) hq2 hb_z
          refine Zgo hX 1 rfl True.intro ?_
          refine Zs_sub (l' := [(0, .ref 53)]) rfl ?_
          exact ih_z k1_z _ _ _ (by omega) hq3 (by simp; omega) g2 (by omega) hr_z
        · refine Zs_ne hX (List.cons_ne_nil _ _) (fun q_z => False.elim (by revert q_z; decide)) (fun _ => ?_)
          rw [if_neg hb_z] at hr_z
          refine Zgo hX 1 rfl True.intro ?_
          refine Zs_retz hX hE rfl (by first | exact Or.inl rfl | exact Or.inr rfl) ⟨Or.inr ⟨rfl, by rw [hr_z]; exact Bool.false_ne_true⟩, ?_⟩
          rw [hr_z]
          exact Zsq_f2 (hq_z.1.tr (Zsc_a53 _ _)) hq2
      refine Zgo hX 1 rfl True.intro ?_
      refine Zs_callv hX (List.cons_ne_nil _ _) (s_look c_z n_z u_z _ _ hz1.1) (by first | decide | omega) (by decide) rfl rfl rfl (by decide) (Nat.le_of_ble_eq_true rfl) (fun r_z M' hc_z => ?_)
      obtain ⟨rfl, rfl⟩ := hc_z
      refine Zgo hX 1 rfl True.intro ?_
      refine Zs_ine hX (List.cons_ne_nil _ _) (fun h15_z => ?_) (fun h15_z => ?_)
      · have his : ¬ Zis 0 (c_z p1) = true := (fun q_z => by simp only [Zis, Bool.or_eq_true, beq_iff_eq] at q_z; first | exact h15_z ((Zlk_eq (by decide)).mpr q_z))
        have hr2 := hr_z.trans (Zlop_0 k_z p1 L his)
        refine Zgo hX 1 rfl True.intro ?_
        refine Zs_retz hX hE rfl (by first | exact Or.inl rfl | exact Or.inr rfl) ⟨Or.inl ⟨rfl, by rw [hr2]⟩, by rw [hr2]; exact hq_z⟩
      · exact LB _ (by rw [(Zlk_eq (by decide)).mp h15_z]; rfl) rfl
  refine Zgo hX 1 rfl True.intro ?_
  refine Zs_callv hX (List.cons_ne_nil _ _) (hn_z p_z st _ hz_z hsp) (by first | decide | omega) (by decide) rfl rfl rfl (by decide) (Nat.le_of_ble_eq_true rfl) (fun r_z M' hc_z => ?_)
  rcases hc_z with ⟨⟨rfl, hb_z⟩ | ⟨rfl, hb_z⟩, hq_z⟩
  · refine Zs_ne hX (List.cons_ne_nil _ _) (fun _ => ?_) (fun q_z => False.elim (by revert q_z; decide))
    obtain ⟨g1, g2, g3⟩ := hg_z p_z hpn
    obtain ⟨g4, g5, -⟩ := g3 hb_z
    have hqq : Zsq c_z n_z u_z o_z st M M' (true, (Zlvl c_z pc 4 p_z).2.1, (Zlvl c_z pc 4 p_z).2.2) := ⟨hq_z.1, hq_z.2.1, fun _ => hq_z.2.2 hb_z⟩
    exact L9 61 60 _ _ _ (by omega) hqq (by omega) g2 (by omega) (by rw [Zlvl_s 4 p_z, if_pos hb_z]; rfl)
  · refine Zs_ne hX (List.cons_ne_nil _ _) (fun q_z => False.elim (by revert q_z; decide)) (fun _ => ?_)
    have hr_z : Zlvl c_z pc 5 p_z = (false, (Zlvl c_z pc 4 p_z).2.1, []) := by rw [Zlvl_s 4 p_z, if_neg hb_z]
    refine Zgo hX 1 rfl True.intro ?_
    refine Zs_retz hX hE rfl (by first | exact Or.inl rfl | exact Or.inr rfl) ⟨Or.inr ⟨rfl, by rw [hr_z]; exact Bool.false_ne_true⟩, ?_⟩
    rw [hr_z]
    exact Zsq_f2 (Sc.rf M) hq_z
