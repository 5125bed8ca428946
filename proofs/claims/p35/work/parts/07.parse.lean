-- texts read, purely: whether it goes on, where it stands then, the items
abbrev Zrs : Type := Bool × Nat × List Zitm
def Zis (k_z c_z : Nat) : Bool := match k_z with
  | 0 => c_z == 124
  | 1 => c_z == 38
  | 2 => c_z == 60 || c_z == 61 || c_z == 62
  | 3 => c_z == 43 || c_z == 45
  | _ => c_z == 42 || c_z == 47 || c_z == 37
def Zlop (nx : Nat → Zrs) (is : Nat → Bool) (c_z : Nat → Nat) : Nat → Nat → List Zitm → Zrs
  | 0, p_z, L => (true, p_z, L)
  | n_z + 1, p_z, L => if is (c_z p_z) = true then (if (nx (p_z + 1)).1 = true then Zlop nx is c_z n_z (nx (p_z + 1)).2.1 (L ++ ((nx (p_z + 1)).2.2 ++ [(nI 3, nI (c_z p_z))])) else (false, (nx (p_z + 1)).2.1, [])) else (true, p_z, L)
def Zlvl (c_z : Nat → Nat) (pc : Nat → Zrs) : Nat → Nat → Zrs
  | 0, p_z => pc p_z
  | j_z + 1, p_z => if (Zlvl c_z pc j_z p_z).1 = true then Zlop (Zlvl c_z pc j_z) (Zis (4 - j_z)) c_z (if j_z = 2 then 1 else 60) (Zlvl c_z pc j_z p_z).2.1 (Zlvl c_z pc j_z p_z).2.2 else (false, (Zlvl c_z pc j_z p_z).2.1, [])
def Zdig (c_z : Nat) : Bool := Nat.ble 48 c_z && Nat.ble c_z 57
def Znum (c_z : Nat → Nat) : Nat → Nat → Nat → Nat × Nat
  | 0, p_z, v_z => (p_z, v_z)
  | n_z + 1, p_z, v_z => if Zdig (c_z p_z) = true then Znum c_z n_z (p_z + 1) (10 * v_z + c_z p_z - 48) else (p_z, v_z)
def Znmb (u_z c_z : Nat) : Bool := (u_z == 0 && (c_z == 98 || c_z == 119 || c_z == 116)) || (u_z == 1 && (c_z == 119 || c_z == 116 || c_z == 107))
theorem Znmb_iff {u_z c_z : Nat} : Znmb u_z c_z = true ↔ Znm u_z c_z := by
  unfold Znmb Znm
  simp only [Bool.or_eq_true, Bool.and_eq_true, beq_iff_eq]
  omega
def Zpie (c_z : Nat → Nat) (u_z : Nat) : Nat → Nat → Zrs
  | 0, p_z => if Zdig (c_z p_z) = true then (true, (Znum c_z 4 p_z 0).1, [(nI 0, nI (Znum c_z 4 p_z 0).2)]) else if Znmb u_z (c_z p_z) = true then (true, p_z + 1, [(nI 1, nI (c_z p_z))]) else (false, p_z, [])
  | o_z + 1, p_z => if Zdig (c_z p_z) = true then (true, (Znum c_z 4 p_z 0).1, [(nI 0, nI (Znum c_z 4 p_z 0).2)]) else if c_z p_z = 33 then (if (Zpie c_z u_z o_z (p_z + 1)).1 = true then (true, (Zpie c_z u_z o_z (p_z + 1)).2.1, (Zpie c_z u_z o_z (p_z + 1)).2.2 ++ [(nI 2, nI 0)]) else (false, (Zpie c_z u_z o_z (p_z + 1)).2.1, []))
      else if c_z p_z = 40 then (if (Zlvl c_z (fun q_z => Zpie c_z u_z o_z q_z) 5 (p_z + 1)).1 = true ∧ c_z (Zlvl c_z (fun q_z => Zpie c_z u_z o_z q_z) 5 (p_z + 1)).2.1 = 41 then (true, (Zlvl c_z (fun q_z => Zpie c_z u_z o_z q_z) 5 (p_z + 1)).2.1 + 1, (Zlvl c_z (fun q_z => Zpie c_z u_z o_z q_z) 5 (p_z + 1)).2.2) else (false, (Zlvl c_z (fun q_z => Zpie c_z u_z o_z q_z) 5 (p_z + 1)).2.1, []))
      else if Znmb u_z (c_z p_z) = true then (true, p_z + 1, [(nI 1, nI (c_z p_z))]) else (false, p_z, [])
/-- items that leave one number more -/
def Zse (u_z : Nat) (L : List Zitm) : Prop := ∀ (g_z : Nat → Zitm) (m_z d_z : Nat), Zwf u_z g_z m_z d_z → (∀ i_z, i_z < L.length → g_z (m_z + i_z) = L.getD i_z (0, 0)) → Zwf u_z g_z (m_z + L.length) (d_z + 1)
theorem Zse_1 {u_z : Nat} {a_z : Zitm} (h_z : (a_z.1 = nI 0 ∧ ∃ j_z, j_z < 10000 ∧ a_z.2 = nI j_z) ∨ (a_z.1 = nI 1 ∧ ∃ c_z, Znm u_z c_z ∧ a_z.2 = nI c_z)) : Zse u_z [a_z] := by
  intro g_z m_z d_z hw_z hg_z
  have h0_z : g_z m_z = a_z := hg_z 0 (by simp)
  refine ⟨d_z, hw_z, ?_⟩
  show ((g_z m_z).1 = nI 0 ∧ _) ∨ _
  rw [h0_z]
  rcases h_z with ⟨e_z, h_z⟩ | ⟨e_z, h_z⟩
  · exact Or.inl ⟨e_z, h_z, rfl⟩
  · exact Or.inr (Or.inl ⟨e_z, h_z, rfl⟩)
theorem Zse_2 {u_z : Nat} {L : List Zitm} (h_z : Zse u_z L) : Zse u_z (L ++ [(nI 2, nI 0)]) := by
  intro g_z m_z d_z hw_z hg_z
  have h1_z := h_z g_z m_z d_z hw_z (fun i_z hi_z => by
    rw [hg_z i_z (by simp; omega)]
    simp [List.getD_eq_getElem?_getD, List.getElem?_append_left hi_z])
  have h2_z : g_z (m_z + L.length) = (nI 2, nI 0) := by
    rw [hg_z L.length (by simp)]
    simp [List.getD_eq_getElem?_getD]
  rw [show m_z + (L ++ [((nI 2, nI 0) : Zitm)]).length = (m_z + L.length) + 1 by simp; omega]
  refine ⟨d_z + 1, h1_z, Or.inr (Or.inr (Or.inl ⟨?_, by omega, rfl⟩))⟩
  rw [h2_z]
theorem Zse_3 {u_z s_z : Nat} {L K : List Zitm} (h_z : Zse u_z L) (h' : Zse u_z K) (hs_z : Zsg s_z) : Zse u_z (L ++ (K ++ [(nI 3, nI s_z)])) := by
  intro g_z m_z d_z hw_z hg_z
  have h1_z := h_z g_z m_z d_z hw_z (fun i_z hi_z => by
    rw [hg_z i_z (by simp; omega)]
    simp [List.getD_eq_getElem?_getD, List.getElem?_append_left hi_z])
  have h2_z := h' g_z (m_z + L.length) (d_z + 1) h1_z (fun i_z hi_z => by
    rw [Nat.add_assoc, hg_z (L.length + i_z) (by simp; omega)]
    rw [List.getD_eq_getElem?_getD, List.getD_eq_getElem?_getD, List.getElem?_append_right (by omega), Nat.add_sub_cancel_left, List.getElem?_append_left hi_z])
  have h3_z : g_z (m_z + L.length + K.length) = (nI 3, nI s_z) := by
    rw [Nat.add_assoc, hg_z (L.length + K.length) (by simp)]
    rw [List.getD_eq_getElem?_getD, List.getElem?_append_right (by omega), Nat.add_sub_cancel_left]
    simp
  rw [show m_z + (L ++ (K ++ [((nI 3, nI s_z) : Zitm)])).length = (m_z + L.length + K.length) + 1 by simp; omega]
  refine ⟨d_z + 1 + 1, h2_z, Or.inr (Or.inr (Or.inr ⟨?_, ⟨s_z, hs_z, ?_⟩, by omega, rfl⟩))⟩
  · rw [h3_z]
  · rw [h3_z]
def Zgd (u_z n_z p_z : Nat) (r_z : Zrs) : Prop := p_z ≤ r_z.2.1 ∧ r_z.2.1 ≤ n_z ∧ (r_z.1 = true → p_z < r_z.2.1 ∧ p_z + r_z.2.2.length ≤ r_z.2.1 ∧ Zse u_z r_z.2.2)
theorem Zis_sg {k_z s_z : Nat} (hk_z : k_z ≤ 4) (h_z : Zis k_z s_z = true) : Zsg s_z := by
  unfold Zsg
  match k_z, hk_z, h_z with
  | 0, _, h_z => simp only [Zis, beq_iff_eq] at h_z; omega
  | 1, _, h_z => simp only [Zis, beq_iff_eq] at h_z; omega
  | 2, _, h_z => simp only [Zis, Bool.or_eq_true, beq_iff_eq] at h_z; omega
  | 3, _, h_z => simp only [Zis, Bool.or_eq_true, beq_iff_eq] at h_z; omega
  | 4, _, h_z => simp only [Zis, Bool.or_eq_true, beq_iff_eq] at h_z; omega
section ZPG
variable {c_z : Nat → Nat} {u_z n_z : Nat}
theorem Zc_lt (hc_z : ∀ i_z, n_z ≤ i_z → c_z i_z = 256) {p_z : Nat} (h_z : c_z p_z < 128) : p_z < n_z := by
  refine (Nat.lt_or_ge p_z n_z).elim id (fun q_z => ?_)
  rw [hc_z p_z q_z] at h_z
  omega
theorem Zlop_gd (hc_z : ∀ i_z, n_z ≤ i_z → c_z i_z = 256) {nx : Nat → Zrs} {is : Nat → Bool} (hnx : ∀ p_z, p_z ≤ n_z → Zgd u_z n_z p_z (nx p_z)) (his : ∀ s_z, is s_z = true → Zsg s_z) : ∀ (k_z p0 p_z : Nat) (L : List Zitm), p0 < p_z → p_z ≤ n_z → p0 + L.length ≤ p_z → Zse u_z L → Zgd u_z n_z p0 (Zlop nx is c_z k_z p_z L) := by
  intro k_z
  induction k_z with
  | zero => intro p0 p_z L h1_z h2_z h3_z h4_z; exact ⟨Nat.le_of_lt h1_z, h2_z, fun _ => ⟨h1_z, h3_z, h4_z⟩⟩
  | succ k_z ih_z =>
    intro p0 p_z L h1_z h2_z h3_z h4_z
    unfold Zlop
    by_cases hi_z : is (c_z p_z) = true
    · rw [if_pos hi_z]
      have hsg := his _ hi_z
      have hp : p_z < n_z := Zc_lt hc_z (by have := Zsg_lt hsg; omega)
      obtain ⟨g1, g2, g3⟩ := hnx (p_z + 1) (by omega)
      by_cases hq_z : (nx (p_z + 1)).1 = true
      · rw [if_pos hq_z]
        obtain ⟨g4, g5, g6⟩ := g3 hq_z
        exact ih_z p0 _ _ (by omega) g2 (by simp; omega) (Zse_3 h4_z g6 hsg)
      · rw [if_neg hq_z]
        exact ⟨by show p0 ≤ (nx (p_z + 1)).2.1; omega, g2, fun q_z => by cases q_z⟩
    · rw [if_neg hi_z]
      exact ⟨Nat.le_of_lt h1_z, h2_z, fun _ => ⟨h1_z, h3_z, h4_z⟩⟩
theorem Zlvl_gd (hc_z : ∀ i_z, n_z ≤ i_z → c_z i_z = 256) {pc : Nat → Zrs} (hpc : ∀ p_z, p_z ≤ n_z → Zgd u_z n_z p_z (pc p_z)) : ∀ (j_z : Nat), j_z ≤ 5 → ∀ p_z, p_z ≤ n_z → Zgd u_z n_z p_z (Zlvl c_z pc j_z p_z) := by
  intro j_z
  induction j_z with
  | zero => intro _ p_z hp; exact hpc p_z hp
  | succ j_z ih_z =>
    intro hj_z p_z hp
    have ih_z := ih_z (by omega)
    obtain ⟨g1, g2, g3⟩ := ih_z p_z hp
    unfold Zlvl
    by_cases hq_z : (Zlvl c_z pc j_z p_z).1 = true
    · rw [if_pos hq_z]
      obtain ⟨g4, g5, g6⟩ := g3 hq_z
      exact Zlop_gd hc_z ih_z (fun s_z hs_z => Zis_sg (by omega) hs_z) _ p_z _ _ g4 g2 g5 g6
    · rw [if_neg hq_z]
      exact ⟨g1, g2, fun q_z => by cases q_z⟩
theorem Zdig_iff {m_z : Nat} : Zdig m_z = true ↔ 48 ≤ m_z ∧ m_z ≤ 57 := by
  unfold Zdig
  simp only [Bool.and_eq_true, Nat.ble_eq]
theorem Znum_gd (hc_z : ∀ i_z, n_z ≤ i_z → c_z i_z = 256) : ∀ (k_z p_z v_z : Nat), p_z ≤ n_z → p_z ≤ (Znum c_z k_z p_z v_z).1 ∧ (Znum c_z k_z p_z v_z).1 ≤ n_z := by
  intro k_z
  induction k_z with
  | zero => intro p_z v_z h_z; exact ⟨Nat.le_refl _, h_z⟩
  | succ k_z ih_z =>
    intro p_z v_z h_z
    unfold Znum
    by_cases hd_z : Zdig (c_z p_z) = true
    · rw [if_pos hd_z]
      have hp : p_z < n_z := Zc_lt hc_z (by have := Zdig_iff.mp hd_z; omega)
      have := ih_z (p_z + 1) (10 * v_z + c_z p_z - 48) (by omega)
      omega
    · rw [if_neg hd_z]
      exact ⟨Nat.le_refl _, h_z⟩
theorem Znum_lt : ∀ (k_z p_z v_z b_z : Nat), v_z < b_z → (Znum c_z k_z p_z v_z).2 < b_z * 10 ^ k_z := by
  intro k_z
  induction k_z with
  | zero => intro p_z v_z b_z h_z; simpa [Znum] using h_z
  | succ k_z ih_z =>
    intro p_z v_z b_z h_z
    unfold Znum
    by_cases hd_z : Zdig (c_z p_z) = true
    · rw [if_pos hd_z]
      have h2_z := Zdig_iff.mp hd_z
      have := ih_z (p_z + 1) (10 * v_z + c_z p_z - 48) (b_z * 10) (by omega)
      rw [Nat.pow_succ, Nat.mul_comm (10 ^ k_z), ← Nat.mul_assoc]
      exact this
    · rw [if_neg hd_z]
      have : 1 ≤ 10 ^ (k_z + 1) := Nat.one_le_pow _ _ (by decide)
      calc v_z < b_z := h_z
        _ = b_z * 1 := (Nat.mul_one b_z).symm
        _ ≤ b_z * 10 ^ (k_z + 1) := Nat.mul_le_mul_left b_z this
theorem Znum_4 (p_z : Nat) : (Znum c_z 4 p_z 0).2 < 10000 := by
  have := Znum_lt (c_z := c_z) 4 p_z 0 1 (by decide)
  omega
theorem Znum_s (hc_z : ∀ i_z, n_z ≤ i_z → c_z i_z = 256) {p_z : Nat} (hp : p_z ≤ n_z) (hd_z : Zdig (c_z p_z) = true) : p_z < (Znum c_z 4 p_z 0).1 ∧ (Znum c_z 4 p_z 0).1 ≤ n_z := by
  have hlt : p_z < n_z := Zc_lt hc_z (by have := Zdig_iff.mp hd_z; omega)
  have e_z : Znum c_z 4 p_z 0 = Znum c_z 3 (p_z + 1) (10 * 0 + c_z p_z - 48) := by
    rw [Znum, if_pos hd_z]
  rw [e_z]
  have := Znum_gd hc_z 3 (p_z + 1) (10 * 0 + c_z p_z - 48) (by omega)
  omega
theorem Zpie_d (hc_z : ∀ i_z, n_z ≤ i_z → c_z i_z = 256) {p_z : Nat} (hp : p_z ≤ n_z) (hd_z : Zdig (c_z p_z) = true) : Zgd u_z n_z p_z (true, (Znum c_z 4 p_z 0).1, [(nI 0, nI (Znum c_z 4 p_z 0).2)]) := by
  obtain ⟨h1_z, h2_z⟩ := Znum_s hc_z hp hd_z
  exact ⟨by show p_z ≤ (Znum c_z 4 p_z 0).1; omega, h2_z, fun _ => ⟨h1_z, by show p_z + 1 ≤ (Znum c_z 4 p_z 0).1; omega, Zse_1 (Or.inl ⟨rfl, _, Znum_4 p_z, rfl⟩)⟩⟩
theorem Zpie_n (hc_z : ∀ i_z, n_z ≤ i_z → c_z i_z = 256) {p_z : Nat} (hn_z : Znmb u_z (c_z p_z) = true) : Zgd u_z n_z p_z (true, p_z + 1, [(nI 1, nI (c_z p_z))]) := by
  have h1_z := Znmb_iff.mp hn_z
  have hp : p_z < n_z := Zc_lt hc_z (Znm_lt h1_z)
  exact ⟨by show p_z ≤ p_z + 1; omega, hp, fun _ => ⟨by show p_z < p_z + 1; omega, Nat.le_refl _, Zse_1 (Or.inr ⟨rfl, _, h1_z, rfl⟩)⟩⟩
theorem Zpie_f {p_z : Nat} (hp : p_z ≤ n_z) : Zgd u_z n_z p_z (false, p_z, []) := ⟨Nat.le_refl _, hp, fun q_z => by cases q_z⟩
theorem Zpie_gd (hc_z : ∀ i_z, n_z ≤ i_z → c_z i_z = 256) : ∀ (o_z p_z : Nat), p_z ≤ n_z → Zgd u_z n_z p_z (Zpie c_z u_z o_z p_z) := by
  intro o_z
  induction o_z with
  | zero =>
    intro p_z hp
    unfold Zpie
    split
    · rename_i hd_z; exact Zpie_d hc_z hp hd_z
    · split
      · rename_i hn_z; exact Zpie_n hc_z hn_z
      · exact Zpie_f hp
  | succ o_z ih_z =>
    intro p_z hp
    unfold Zpie
    split
    · rename_i hd_z; exact Zpie_d hc_z hp hd_z
    · split
      · rename_i h33_z
        have hlt : p_z < n_z := Zc_lt hc_z (by omega)
        obtain ⟨g1, g2, g3⟩ := ih_z (p_z + 1) (by omega)
        split
        · rename_i hq_z
          obtain ⟨g4, g5, g6⟩ := g3 hq_z
          exact ⟨by show p_z ≤ (Zpie c_z u_z o_z (p_z + 1)).2.1; omega, g2, fun _ => ⟨by show p_z < (Zpie c_z u_z o_z (p_z + 1)).2.1; omega, by simp; omega, Zse_2 g6⟩⟩
        · exact ⟨by show p_z ≤ (Zpie c_z u_z o_z (p_z + 1)).2.1; omega, g2, fun q_z => by cases q_z⟩
      · split
        · rename_i h40_z
          have hlt : p_z < n_z := Zc_lt hc_z (by omega)
          obtain ⟨g1, g2, g3⟩ := Zlvl_gd hc_z ih_z 5 (by decide) (p_z + 1) (by omega)
          generalize Zlvl c_z (fun q_z => Zpie c_z u_z o_z q_z) 5 (p_z + 1) = r_z at g1 g2 g3
          split
          · rename_i hq_z
            obtain ⟨g4, g5, g6⟩ := g3 hq_z.1
            have hl2 : r_z.2.1 < n_z := Zc_lt hc_z (by omega)
            exact ⟨by show p_z ≤ r_z.2.1 + 1; omega, hl2, fun _ => ⟨by show p_z < r_z.2.1 + 1; omega, by show p_z + r_z.2.2.length ≤ r_z.2.1 + 1; omega, g6⟩⟩
          · exact ⟨by show p_z ≤ r_z.2.1; omega, g2, fun q_z => by cases q_z⟩
        · split
          · rename_i hn_z; exact Zpie_n hc_z hn_z
          · exact Zpie_f hp
end ZPG
/-- a_z byte as the class has it, as the reference has it; 256: behind the last one -/
def Zsb (m_z : Nat) : Int32 := if m_z < 128 then nI m_z else if m_z < 256 then -(nI (256 - m_z)) else -(nI 1)
def Zlk (m_z : Nat) : Int32 := if m_z < 256 then nI m_z else -(nI 1)
theorem Zsb_eq {m_z k_z : Nat} (hk_z : k_z < 128) : Zsb m_z = nI k_z ↔ m_z = k_z := by
  unfold Zsb
  split
  · rw [Zn_eq (by omega) (by omega)]
  · split
    · rw [Zeq_i, Zneg_i (by omega), Zn_i (by omega)]; omega
    · rw [Zeq_i, Zneg_i (by omega), Zn_i (by omega)]; omega
theorem Zlk_eq {m_z k_z : Nat} (hk_z : k_z < 128) : Zlk m_z = nI k_z ↔ m_z = k_z := by
  unfold Zlk
  split
  · rw [Zn_eq (by omega) (by omega)]
  · rw [Zeq_i, Zneg_i (by omega), Zn_i (by omega)]; omega
theorem Zsb_dig {m_z : Nat} : (nI 48 ≤ Zsb m_z ∧ Zsb m_z ≤ nI 57) ↔ Zdig m_z = true := by
  rw [Zdig_iff, Zle_i, Zle_i, Zn_i (by decide), Zn_i (by decide)]
  unfold Zsb
  split
  · rw [Zn_i (by omega)]; omega
  · split
    · rw [Zneg_i (by omega)]; omega
    · rw [Zneg_i (by omega)]; omega
theorem Zlk_dig {m_z : Nat} : (nI 48 ≤ Zlk m_z ∧ Zlk m_z ≤ nI 57) ↔ Zdig m_z = true := by
  rw [Zdig_iff, Zle_i, Zle_i, Zn_i (by decide), Zn_i (by decide)]
  unfold Zlk
  split
  · rw [Zn_i (by omega)]; omega
  · rw [Zneg_i (by omega)]; omega
theorem Zsb_lt {m_z : Nat} (h_z : m_z < 128) : Zsb m_z = nI m_z := if_pos h_z
theorem Zlk_lt {m_z : Nat} (h_z : m_z < 128) : Zlk m_z = nI m_z := if_pos (by omega)
-- the class reads
theorem Zneg1 (k_z : Nat) : -(nI 1) - nI k_z = -(nI (1 + k_z)) := by
  rw [← nI_add]
  first | (rw [Int32.neg_add]; done) | (rw [Int32.neg_add, Int32.sub_eq_add_neg]; done)
def Zkp (c_z : Nat → Nat) (n_z u_z p_z st : Nat) (M : Zmem) : Prop := ((∀ i_z, n_z ≤ i_z → c_z i_z = 256) ∧ n_z ≤ 60 ∧ u_z < 2 ∧ p_z ≤ n_z) ∧ ¬ M 33 3 = 0 ∧ M 33 4 = nI n_z ∧ M 33 5 = nI u_z ∧ M 33 2 = nI p_z ∧ M 33 1 = nI st ∧ ∀ i_z, i_z < n_z → M 7 i_z = Zsb (c_z i_z)
/-- items as the class tells them, from a_z place on -/
def Zsgm (u_z : Nat) (L : List Zitm) (f_z : Nat → Int32) (st : Nat) : Prop := ∀ i_z, i_z < L.length → Zen u_z (L.getD i_z (0, 0)) (f_z (st + i_z))
def Zkq (c_z : Nat → Nat) (n_z u_z st : Nat) (M M' : Zmem) (r_z : Zrs) : Prop := Sc M M' ∧ ∃ s', s' ≤ 60 ∧ Zkp c_z n_z u_z r_z.2.1 s' M' ∧ (r_z.1 = true → s' = st + r_z.2.2.length ∧ (∀ i_z, i_z < st → M' 34 i_z = M 34 i_z) ∧ Zsgm u_z r_z.2.2 (M' 34) st)
def Zkc (k_z fr : Nat) (as : List Value) (c_z : Nat → Nat) (n_z u_z : Nat) (R : Nat → Zrs) : Prop := ∀ (p_z st : Nat) (M : Zmem), Zkp c_z n_z u_z p_z st M → st ≤ p_z → ZC k_z fr (.ref 33 :: as) M (fun r_z M' => Zb r_z ((R p_z).1 = true) ∧ Zkq c_z n_z u_z st M M' (R p_z))
theorem Ztp (ad : Nat → Nat) {x_z : Int32} (h_z : ¬ x_z = 0) : Zfv ad (3, 7) x_z = Ztr ad (.ref 7) := if_neg h_z
theorem Zap_getD (A B : List Zitm) (i_z : Nat) : (A ++ B).getD i_z (0, 0) = if i_z < A.length then A.getD i_z (0, 0) else B.getD (i_z - A.length) (0, 0) := by
  split
  · rename_i h_z
    simp [List.getD_eq_getElem?_getD, List.getElem?_append_left h_z]
  · rename_i h_z
    simp [List.getD_eq_getElem?_getD, List.getElem?_append_right (Nat.not_lt.mp h_z)]
theorem Zsgm_app {u_z st : Nat} {A B : List Zitm} {f_z : Nat → Int32} (h1_z : Zsgm u_z A f_z st) (h2_z : Zsgm u_z B f_z (st + A.length)) : Zsgm u_z (A ++ B) f_z st := by
  intro i_z hi_z
  rw [Zap_getD]
  split
  · rename_i h_z; exact h1_z i_z h_z
  · rename_i h_z
    rw [List.length_append] at hi_z
    have := h2_z (i_z - A.length) (by omega)
    rw [show st + A.length + (i_z - A.length) = st + i_z by omega] at this
    exact this
theorem Zsgm_kp {u_z st : Nat} {A : List Zitm} {f_z f' : Nat → Int32} (h1_z : Zsgm u_z A f_z st) (h_z : ∀ i_z, i_z < st + A.length → f' i_z = f_z i_z) : Zsgm u_z A f' st := by
  intro i_z hi_z
  rw [h_z _ (by omega)]
  exact h1_z i_z hi_z
theorem Zsgm_1 {u_z st : Nat} {a_z : Zitm} {f_z : Nat → Int32} (h_z : Zen u_z a_z (f_z st)) : Zsgm u_z [a_z] f_z st := by
  intro i_z hi_z
  obtain rfl : i_z = 0 := by simpa using hi_z
  exact h_z
section ZKP
variable {c_z : Nat → Nat} {n_z u_z p_z st : Nat} {M M1 M2 M3 : Zmem}
theorem Zkp.nx (h_z : Zkp c_z n_z u_z p_z st M) (q_z : Nat) : q_z < n_z → (M 7 (nI q_z).toNatClampNeg) = Zsb (c_z q_z) := by
  intro hq_z
  obtain ⟨⟨-, hn_z, -, -⟩, -, -, -, -, -, ht_z⟩ := h_z
  rw [Zcl_n (by omega)]
  exact ht_z q_z hq_z
theorem Zkp.at (h_z : Zkp c_z n_z u_z p_z st M) (hp : p_z < n_z) : Zkp c_z n_z u_z (p_z + 1) st (Zu M 33 2 (nI (p_z + 1))) := by
  obtain ⟨⟨h1_z, h2_z, h3_z, h4_z⟩, h5_z, h6_z, h7_z, h8_z, h9_z, h10_z⟩ := h_z
  exact ⟨⟨h1_z, h2_z, h3_z, hp⟩, h5_z, h6_z, h7_z, rfl, h9_z, h10_z⟩
theorem Zkp.keep (h_z : Zkp c_z n_z u_z p_z st M) (x_z : Int32) : Zkp c_z n_z u_z p_z (st + 1) (Zu (Zu M 34 st x_z) 33 1 (nI (st + 1))) := by
  obtain ⟨⟨h1_z, h2_z, h3_z, h4_z⟩, h5_z, h6_z, h7_z, h8_z, h9_z, h10_z⟩ := h_z
  exact ⟨⟨h1_z, h2_z, h3_z, h4_z⟩, h5_z, h6_z, h7_z, h8_z, rfl, h10_z⟩
theorem Zku (M : Zmem) (st : Nat) (x_z : Int32) (i_z : Nat) : (Zu (Zu M 34 st x_z) 33 1 (nI (st + 1))) 34 i_z = if i_z = st then x_z else M 34 i_z := by
  show (Zu M 34 st x_z) 34 i_z = _
  rw [Zu_k]
  by_cases h_z : i_z = st
  · rw [if_pos ⟨rfl, h_z⟩, if_pos h_z]
  · rw [if_neg (fun q_z => h_z q_z.2), if_neg h_z]
theorem Zsc_keep (M : Zmem) (st : Nat) (x_z : Int32) : Sc M (Zu (Zu M 34 st x_z) 33 1 (nI (st + 1))) := ((Sc.rf M).u _ rfl).u _ rfl
theorem Zsc_at (M : Zmem) (v_z : Int32) : Sc M (Zu M 33 2 v_z) := (Sc.rf M).u _ rfl
/-- one item -/
theorem Zkq_1 {q_z : Nat} {a_z : Zitm} {x_z : Int32} (hs_z : Sc M M1) (hc_z : ∀ i_z, M1 34 i_z = M 34 i_z) (h_z : Zkp c_z n_z u_z q_z st M1) (hlt : st < 60) (ha_z : Zen u_z a_z x_z) : Zkq c_z n_z u_z st M (Zu (Zu M1 34 st x_z) 33 1 (nI (st + 1))) (true, q_z, [a_z]) := by
  refine ⟨hs_z.tr (Zsc_keep _ _ _), st + 1, hlt, h_z.keep x_z, fun _ => ⟨rfl, fun i_z hi_z => ?_, ?_⟩⟩
  · rw [Zku, if_neg (by omega), hc_z]
  · exact Zsgm_1 (by rw [Zku, if_pos rfl]; exact ha_z)
theorem Zkq_f {q_z s' : Nat} {L : List Zitm} (hs_z : Sc M M1) (h_z : Zkp c_z n_z u_z q_z s' M1) (hlt : s' ≤ 60) : Zkq c_z n_z u_z st M M1 (false, q_z, L) := ⟨hs_z, s', hlt, h_z, fun q_z => by cases q_z⟩
/-- where it fell within, it falls -/
theorem Zkq_f2 {s2_z : Nat} {r_z : Zrs} (hs_z : Sc M M1) (h_z : Zkq c_z n_z u_z s2_z M1 M2 r_z) : Zkq c_z n_z u_z st M M2 (false, r_z.2.1, []) := by
  obtain ⟨h1_z, s', h2_z, h3_z, -⟩ := h_z
  exact ⟨hs_z.tr h1_z, s', h2_z, h3_z, fun q_z => by cases q_z⟩
theorem Zkq_pre {r_z : Zrs} (hs_z : Sc M M1) (hc_z : ∀ i_z, M1 34 i_z = M 34 i_z) (h_z : Zkq c_z n_z u_z st M1 M2 r_z) : Zkq c_z n_z u_z st M M2 r_z := by
  obtain ⟨h1_z, s', h2_z, h3_z, h4_z⟩ := h_z
  refine ⟨hs_z.tr h1_z, s', h2_z, h3_z, fun q_z => ?_⟩
  obtain ⟨g1, g2, g3⟩ := h4_z q_z
  exact ⟨g1, fun i_z hi_z => by rw [g2 i_z hi_z, hc_z], g3⟩
theorem Zkq.p {r_z : Zrs} (h_z : Zkq c_z n_z u_z st M M1 r_z) (hr_z : r_z.1 = true) : Zkp c_z n_z u_z r_z.2.1 (st + r_z.2.2.length) M1 := by
  obtain ⟨h1_z, s', h2_z, h3_z, h4_z⟩ := h_z
  obtain ⟨rfl, -, -⟩ := h4_z hr_z
  exact h3_z
/-- not -/
theorem Zkq_2 {r_z : Zrs} {x_z : Int32} (h_z : Zkq c_z n_z u_z st M M1 r_z) (hr_z : r_z.1 = true) (hlt : st + r_z.2.2.length < 60) (hx_z : x_z = -(nI 33)) : Zkq c_z n_z u_z st M (Zu (Zu M1 34 (st + r_z.2.2.length) x_z) 33 1 (nI (st + r_z.2.2.length + 1))) (true, r_z.2.1, r_z.2.2 ++ [(nI 2, nI 0)]) := by
  have hp := h_z.p hr_z
  obtain ⟨h1_z, s', h2_z, h3_z, h4_z⟩ := h_z
  obtain ⟨rfl, g2, g3⟩ := h4_z hr_z
  refine ⟨h1_z.tr (Zsc_keep _ _ _), st + r_z.2.2.length + 1, hlt, hp.keep x_z, fun _ => ⟨by simp; omega, fun i_z hi_z => ?_, ?_⟩⟩
  · rw [Zku, if_neg (by omega), g2 i_z hi_z]
  · refine Zsgm_app (Zsgm_kp g3 (fun i_z hi_z => by rw [Zku, if_neg (by omega)])) (Zsgm_1 ?_)
    rw [Zku, if_pos rfl]
    exact Or.inr (Or.inr (Or.inl ⟨rfl, hx_z⟩))
/-- two, and a_z sign -/
theorem Zkq_3 {r_z : Zrs} {s_z q1_z : Nat} {L : List Zitm} {x_z : Int32} (h_z : Zkq c_z n_z u_z st M M1 (true, q1_z, L)) (hs_z : Sc M1 M2) (hc_z : ∀ i_z, M2 34 i_z = M1 34 i_z) (h' : Zkq c_z n_z u_z (st + L.length) M2 M3 r_z) (hr_z : r_z.1 = true) (hlt : st + L.length + r_z.2.2.length < 60) (hx_z : x_z = -(nI s_z)) :
    Zkq c_z n_z u_z st M (Zu (Zu M3 34 (st + L.length + r_z.2.2.length) x_z) 33 1 (nI (st + L.length + r_z.2.2.length + 1))) (true, r_z.2.1, L ++ (r_z.2.2 ++ [(nI 3, nI s_z)])) := by
  have hp := h'.p hr_z
  obtain ⟨h1_z, s', h2_z, h3_z, h4_z⟩ := h_z
  obtain ⟨-, g2, g3⟩ := h4_z rfl
  obtain ⟨f1_z, s2_z, f2_z, f3, f4⟩ := h'
  obtain ⟨rfl, e2_z, e3_z⟩ := f4 hr_z
  refine ⟨((h1_z.tr hs_z).tr f1_z).tr (Zsc_keep _ _ _), _, hlt, hp.keep x_z, fun _ => ⟨by simp; omega, fun i_z hi_z => ?_, ?_⟩⟩
  · rw [Zku, if_neg (by omega), e2_z i_z (by omega), hc_z, g2 i_z hi_z]
  · refine Zsgm_app (Zsgm_kp g3 (fun i_z hi_z => ?_)) (Zsgm_app (Zsgm_kp e3_z (fun i_z hi_z => ?_)) (Zsgm_1 ?_))
    · show _ = M1 34 i_z
      rw [Zku, if_neg (by have : i_z < st + L.length := hi_z; omega), e2_z i_z (by exact hi_z), hc_z]
    · rw [Zku, if_neg (by omega)]
    · rw [Zku, if_pos rfl]
      exact Or.inr (Or.inr (Or.inr ⟨rfl, hx_z⟩))
end ZKP
theorem Zlv_no {m_z : Nat} (h_z : ¬ Zsg m_z) : ∀ k_z, k_z < 5 → (-(nI 1) = nI k_z ↔ Zis k_z m_z = true) := by
  intro k_z hk_z
  constructor
  · intro e_z
    rw [Zeq_i, Zneg_i (by decide), Zn_i (by omega)] at e_z
    omega
  · intro e_z
    exact absurd (Zis_sg (by omega) e_z) h_z
def Znc (u_z j_z : Nat) : Int32 := ([98, 119, 116, 119, 116, 107] : List Int32).getD (3 * u_z + j_z) 0
theorem Znc_y {u_z j_z m_z : Nat} (hu_z : u_z < 2) (hj_z : j_z < 3) (h_z : Zsb m_z = Znc u_z j_z) : Znmb u_z m_z = true ∧ nI j_z = nI (Zpn u_z m_z) := by
  have key : ∀ u_z, u_z < 2 → ∀ j_z, j_z < 3 → ∃ k_z, k_z < 128 ∧ Znc u_z j_z = nI k_z ∧ Znmb u_z k_z = true ∧ j_z = Zpn u_z k_z := by decide +kernel
  obtain ⟨k_z, h1_z, h2_z, h3_z, h4_z⟩ := key u_z hu_z j_z hj_z
  rw [h2_z, Zsb_eq h1_z] at h_z
  subst h_z
  exact ⟨h3_z, by rw [← h4_z]⟩
theorem Znc_n {u_z m_z : Nat} (hu_z : u_z < 2) (h_z : ∀ j_z, j_z < 3 → ¬ Zsb m_z = Znc u_z j_z) : ¬ Znmb u_z m_z = true := by
  intro q_z
  have q2_z := Znmb_iff.mp q_z
  have hlt := Znm_lt q2_z
  rcases q2_z with ⟨rfl, e_z | e_z | e_z⟩ | ⟨rfl, e_z | e_z | e_z⟩ <;> subst e_z
  · exact h_z 0 (by decide) (by decide)
  · exact h_z 1 (by decide) (by decide)
  · exact h_z 2 (by decide) (by decide)
  · exact h_z 0 (by decide) (by decide)
  · exact h_z 1 (by decide) (by decide)
  · exact h_z 2 (by decide) (by decide)
section ZPE
variable {c_z : Nat → Nat} {u_z o_z p_z : Nat}
theorem Zpie_dig (h_z : Zdig (c_z p_z) = true) : Zpie c_z u_z o_z p_z = (true, (Znum c_z 4 p_z 0).1, [(nI 0, nI (Znum c_z 4 p_z 0).2)]) := by
  cases o_z <;> (unfold Zpie; rw [if_pos h_z])
theorem Zpie_nam (h_z : ¬ Zdig (c_z p_z) = true) (h1_z : ¬ c_z p_z = 33) (h2_z : ¬ c_z p_z = 40) (h3_z : Znmb u_z (c_z p_z) = true) : Zpie c_z u_z o_z p_z = (true, p_z + 1, [(nI 1, nI (c_z p_z))]) := by
  cases o_z
  · unfold Zpie; rw [if_neg h_z, if_pos h3_z]
  · unfold Zpie; rw [if_neg h_z, if_neg h1_z, if_neg h2_z, if_pos h3_z]
theorem Zpie_non (h_z : ¬ Zdig (c_z p_z) = true) (h1_z : ¬ c_z p_z = 33) (h2_z : ¬ c_z p_z = 40) (h3_z : ¬ Znmb u_z (c_z p_z) = true) : Zpie c_z u_z o_z p_z = (false, p_z, []) := by
  cases o_z
  · unfold Zpie; rw [if_neg h_z, if_neg h3_z]
  · unfold Zpie; rw [if_neg h_z, if_neg h1_z, if_neg h2_z, if_neg h3_z]
theorem Zpie_0 (h_z : c_z p_z = 33 ∨ c_z p_z = 40) : Zpie c_z u_z 0 p_z = (false, p_z, []) := by
  have h3_z : ¬ Znmb u_z (c_z p_z) = true := fun q_z => by
    have := Znmb_iff.mp q_z
    unfold Znm at this
    omega
  unfold Zpie
  rw [if_neg (fun q_z => by have := Zdig_iff.mp q_z; omega), if_neg h3_z]
theorem Zpie_33t (h_z : c_z p_z = 33) (h1_z : (Zpie c_z u_z o_z (p_z + 1)).1 = true) : Zpie c_z u_z (o_z + 1) p_z = (true, (Zpie c_z u_z o_z (p_z + 1)).2.1, (Zpie c_z u_z o_z (p_z + 1)).2.2 ++ [(nI 2, nI 0)]) := by
  rw [Zpie, if_neg (fun q_z => by have := Zdig_iff.mp q_z; omega), if_pos h_z, if_pos h1_z]
theorem Zpie_33f (h_z : c_z p_z = 33) (h1_z : ¬ (Zpie c_z u_z o_z (p_z + 1)).1 = true) : Zpie c_z u_z (o_z + 1) p_z = (false, (Zpie c_z u_z o_z (p_z + 1)).2.1, []) := by
  rw [Zpie, if_neg (fun q_z => by have := Zdig_iff.mp q_z; omega), if_pos h_z, if_neg h1_z]
theorem Zpie_40t (h_z : c_z p_z = 40) (h1_z : (Zlvl c_z (Zpie c_z u_z o_z) 5 (p_z + 1)).1 = true) (h2_z : c_z (Zlvl c_z (Zpie c_z u_z o_z) 5 (p_z + 1)).2.1 = 41) : Zpie c_z u_z (o_z + 1) p_z = (true, (Zlvl c_z (Zpie c_z u_z o_z) 5 (p_z + 1)).2.1 + 1, (Zlvl c_z (Zpie c_z u_z o_z) 5 (p_z + 1)).2.2) := by
  rw [Zpie, if_neg (fun q_z => by have := Zdig_iff.mp q_z; omega), if_neg (by omega), if_pos h_z, if_pos ⟨h1_z, h2_z⟩]
theorem Zpie_40f (h_z : c_z p_z = 40) (h1_z : ¬ ((Zlvl c_z (Zpie c_z u_z o_z) 5 (p_z + 1)).1 = true ∧ c_z (Zlvl c_z (Zpie c_z u_z o_z) 5 (p_z + 1)).2.1 = 41)) : Zpie c_z u_z (o_z + 1) p_z = (false, (Zlvl c_z (Zpie c_z u_z o_z) 5 (p_z + 1)).2.1, []) := by
  rw [Zpie, if_neg (fun q_z => by have := Zdig_iff.mp q_z; omega), if_neg (by omega), if_pos h_z, if_neg h1_z]
end ZPE
