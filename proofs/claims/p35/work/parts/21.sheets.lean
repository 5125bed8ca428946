-- sheets: bits, sizes, numbers as the reference has them
abbrev Zsn : Type := (Nat → Int32) × (Nat → Int32) × (Nat → Int32)
abbrev Zas_ : Type := Int32 × Zsn
def Zks (g_z : Zsn) (M : Zmem) : Prop := ∀ t, t < 4 → M (45 + 2 * t) 1 = g_z.1 t ∧ M (45 + 2 * t) 2 = g_z.2.1 t ∧ ∀ i_z, i_z < 24 → M (46 + 2 * t) i_z = g_z.2.2 (24 * t + i_z)
def Zbt (b_z : Int32) : Prop := b_z = nI 0 ∨ b_z = nI 8 ∨ b_z = nI 16 ∨ b_z = nI 32
def Zsiv (g_z : Zsn) : Prop := ∀ t, t < 4 → Zbt (g_z.1 t) ∧ ∃ s_z, s_z ≤ 24 ∧ g_z.2.1 t = nI s_z
def Zgs (M : Zmem) : Zsn := (M 66, M 67, M 68)
/-- nothing else changes: the class's sheets; the reference's -/
def Zhg (M M' : Zmem) : Prop := ∀ o_z k_z, scr o_z k_z = false → ¬ (45 ≤ o_z ∧ o_z ≤ 52) → M' o_z k_z = M o_z k_z
def Zhr (M M' : Zmem) : Prop := ∀ o_z k_z, scr o_z k_z = false → ¬ (66 ≤ o_z ∧ o_z ≤ 68) → M' o_z k_z = M o_z k_z
theorem Zhg.rf (M : Zmem) : Zhg M M := fun _ _ _ _ => rfl
theorem Zhr.rf (M : Zmem) : Zhr M M := fun _ _ _ _ => rfl
theorem Zhg.tr {M M' M'' : Zmem} (h_z : Zhg M M') (h2_z : Zhg M' M'') : Zhg M M'' := fun o_z k_z q_z q2_z => (h2_z o_z k_z q_z q2_z).trans (h_z o_z k_z q_z q2_z)
theorem Zhr.tr {M M' M'' : Zmem} (h_z : Zhr M M') (h2_z : Zhr M' M'') : Zhr M M'' := fun o_z k_z q_z q2_z => (h2_z o_z k_z q_z q2_z).trans (h_z o_z k_z q_z q2_z)
theorem Sc.hg {M M' : Zmem} (h_z : Sc M M') : Zhg M M' := fun o_z k_z q_z _ => h_z o_z k_z q_z
theorem Sc.hr {M M' : Zmem} (h_z : Sc M M') : Zhr M M' := fun o_z k_z q_z _ => h_z o_z k_z q_z
theorem Zhg.u {M M' : Zmem} (h_z : Zhg M M') (o_z : Nat) (ho : 45 ≤ o_z ∧ o_z ≤ 52) (j_z : Nat) (v_z : Int32) : Zhg M (Zu M' o_z j_z v_z) := fun a_z k_z q_z q2_z => by rw [Zu_ne _ _ _ (fun e_z => q2_z (by rw [e_z]; exact ho))]; exact h_z a_z k_z q_z q2_z
theorem Zhr.u {M M' : Zmem} (h_z : Zhr M M') (o_z : Nat) (ho : 66 ≤ o_z ∧ o_z ≤ 68) (j_z : Nat) (v_z : Int32) : Zhr M (Zu M' o_z j_z v_z) := fun a_z k_z q_z q2_z => by rw [Zu_ne _ _ _ (fun e_z => q2_z (by rw [e_z]; exact ho))]; exact h_z a_z k_z q_z q2_z
def Zkk (v_z : Zas_) (M : Zmem) (r_z : Option Value) (M' : Zmem) : Prop := r_z = some (.int v_z.1) ∧ Zks v_z.2 M' ∧ Zhg M M'
def Zsk_ (v_z : Zas_) (M : Zmem) (r_z : Option Value) (M' : Zmem) : Prop := r_z = some (.int v_z.1) ∧ Zgs M' = v_z.2 ∧ Zhr M M'
theorem Zks_kp {g_z : Zsn} {M M' : Zmem} (h_z : Zks g_z M) (hs_z : ∀ o_z k_z, 45 ≤ o_z → o_z ≤ 52 → M' o_z k_z = M o_z k_z) : Zks g_z M' := fun t ht_z => by
  rw [hs_z _ _ (by omega) (by omega), hs_z _ _ (by omega) (by omega)]
  exact ⟨(h_z t ht_z).1, (h_z t ht_z).2.1, fun i_z hi_z => by rw [hs_z _ _ (by omega) (by omega)]; exact (h_z t ht_z).2.2 i_z hi_z⟩
theorem Zscr45 {o_z k_z : Nat} (h1_z : 45 ≤ o_z) (h2_z : o_z ≤ 52) : scr o_z k_z = false := by
  have key : ∀ o_z, o_z < 53 → 45 ≤ o_z → ∀ k_z : Nat, scr o_z k_z = false := by
    intro o_z h1_z h2_z k_z
    rcases (show o_z = 45 ∨ o_z = 46 ∨ o_z = 47 ∨ o_z = 48 ∨ o_z = 49 ∨ o_z = 50 ∨ o_z = 51 ∨ o_z = 52 by omega) with rfl | rfl | rfl | rfl | rfl | rfl | rfl | rfl <;> rfl
  exact key o_z (by omega) h1_z k_z
theorem Zks.sc {g_z : Zsn} {M M' : Zmem} (h_z : Zks g_z M) (hs_z : Sc M M') : Zks g_z M' := Zks_kp h_z (fun o_z k_z a_z b_z => hs_z o_z k_z (Zscr45 a_z b_z))
theorem Sc.gs {M M' : Zmem} (hs_z : Sc M M') : Zgs M' = Zgs M := by
  unfold Zgs
  rw [show M' 66 = M 66 from funext fun j_z => hs_z 66 j_z rfl, show M' 67 = M 67 from funext fun j_z => hs_z 67 j_z rfl, show M' 68 = M 68 from funext fun j_z => hs_z 68 j_z rfl]
theorem Zkk_e {g_z : Zsn} {M M' : Zmem} {k_z : Nat} (hz_z : Zks g_z M) (hs_z : Sc M M') : Zkk (Er k_z, g_z) M (some (.int (Er k_z))) M' := ⟨rfl, hz_z.sc hs_z, hs_z.hg⟩
theorem Zsk_e {M M' : Zmem} {k_z : Nat} (hs_z : Sc M M') : Zsk_ (Er k_z, Zgs M) M (some (.int (Er k_z))) M' := ⟨rfl, hs_z.gs, hs_z.hr⟩
section ZKS
variable {g_z : Zsn} {M : Zmem} {t : Nat}
theorem Zks.b (h_z : Zks g_z M) (ht_z : t < 4) (v_z : Int32) : Zks (upd g_z.1 t v_z, g_z.2.1, g_z.2.2) (Zu M (45 + 2 * t) 1 v_z) := by
  intro t' h'
  obtain ⟨h1_z, h2_z, h3_z⟩ := h_z t' h'
  refine ⟨?_, by rw [Zu_o (by omega)]; exact h2_z, fun i_z hi_z => by rw [Zu_o (by omega)]; exact h3_z i_z hi_z⟩
  by_cases e_z : t' = t
  · subst e_z; rw [Zu_s]; exact pk_us.symm
  · rw [Zu_o (by omega)]; exact h1_z.trans (pk_un e_z).symm
theorem Zks.s (h_z : Zks g_z M) (ht_z : t < 4) (v_z : Int32) : Zks (g_z.1, upd g_z.2.1 t v_z, g_z.2.2) (Zu M (45 + 2 * t) 2 v_z) := by
  intro t' h'
  obtain ⟨h1_z, h2_z, h3_z⟩ := h_z t' h'
  refine ⟨by rw [Zu_o (by omega)]; exact h1_z, ?_, fun i_z hi_z => by rw [Zu_o (by omega)]; exact h3_z i_z hi_z⟩
  by_cases e_z : t' = t
  · subst e_z; rw [Zu_s]; exact pk_us.symm
  · rw [Zu_o (by omega)]; exact h2_z.trans (pk_un e_z).symm
theorem Zks.n (h_z : Zks g_z M) (ht_z : t < 4) {i_z : Nat} (hi_z : i_z < 24) (v_z : Int32) : Zks (g_z.1, g_z.2.1, upd g_z.2.2 (24 * t + i_z) v_z) (Zu M (46 + 2 * t) i_z v_z) := by
  intro t' h'
  obtain ⟨h1_z, h2_z, h3_z⟩ := h_z t' h'
  refine ⟨by rw [Zu_o (by omega)]; exact h1_z, by rw [Zu_o (by omega)]; exact h2_z, fun j_z hj_z => ?_⟩
  by_cases e_z : t' = t ∧ j_z = i_z
  · obtain ⟨rfl, rfl⟩ := e_z; rw [Zu_s]; exact pk_us.symm
  · rw [Zu_o (by omega)]; exact (h3_z j_z hj_z).trans (pk_un (by omega)).symm
end ZKS
def Zz (N : Nat → Int32) (t : Nat) : Nat → Nat → Int32
  | 0 => N
  | k_z + 1 => upd (Zz N t k_z) (24 * t + k_z) (nI 0)
noncomputable def Fsheet (g_z : Zsn) (sh b_z n_z : Int32) : Zas_ := haveI : Decidable (Zbt b_z) := Classical.propDecidable _; if (nI 0 ≤ sh ∧ sh ≤ nI 3) ∧ Zbt b_z then (if ¬ b_z = nI 0 ∧ n_z < nI 0 then (Er 3, g_z) else if ¬ b_z = nI 0 ∧ nI 24 < n_z then (Er 1, g_z) else (nI 1, (upd g_z.1 sh.toNatClampNeg b_z, upd g_z.2.1 sh.toNatClampNeg (if b_z = nI 0 then nI 0 else n_z), Zz g_z.2.2 sh.toNatClampNeg 24))) else (Er 1, g_z)
def Znw (b_z v_z : Int32) : Int32 := if b_z = nI 8 then v_z.toInt8.toInt32 else if b_z = nI 16 then v_z.toInt16.toInt32 else v_z
def Fput (g_z : Zsn) (sh i_z v_z : Int32) : Zas_ := if nI 0 ≤ sh ∧ sh ≤ nI 3 then (if g_z.1 sh.toNatClampNeg = nI 0 then (Er 2, g_z) else if nI 0 ≤ i_z ∧ i_z ≤ g_z.2.1 sh.toNatClampNeg - nI 1 then (nI 1, (g_z.1, g_z.2.1, upd g_z.2.2 (24 * sh.toNatClampNeg + i_z.toNatClampNeg) (Znw (g_z.1 sh.toNatClampNeg) v_z))) else (Er 1, g_z)) else (Er 1, g_z)
/-- numbers moved, as they all were -/
def Zmo (N : Nat → Int32) (a_z b_z : Nat) : Nat → Nat → Int32
  | 0 => N
  | k_z + 1 => upd (Zmo N a_z b_z k_z) (b_z + k_z) (N (a_z + k_z))
def Fmove (g_z : Zsn) (sh i_z oh j_z n_z : Int32) : Zas_ := if (nI 0 ≤ sh ∧ sh ≤ nI 3) ∧ (nI 0 ≤ oh ∧ oh ≤ nI 3) then (if g_z.1 sh.toNatClampNeg = nI 0 ∨ g_z.1 oh.toNatClampNeg = nI 0 then (Er 2, g_z) else if ¬ g_z.1 sh.toNatClampNeg = g_z.1 oh.toNatClampNeg then (Er 5, g_z) else if 0 ≤ n_z.toInt ∧ 0 ≤ i_z.toInt ∧ 0 ≤ j_z.toInt ∧ i_z.toInt + n_z.toInt ≤ (g_z.2.1 sh.toNatClampNeg).toInt ∧ j_z.toInt + n_z.toInt ≤ (g_z.2.1 oh.toNatClampNeg).toInt then (n_z, (g_z.1, g_z.2.1, Zmo g_z.2.2 (24 * sh.toNatClampNeg + i_z.toNatClampNeg) (24 * oh.toNatClampNeg + j_z.toNatClampNeg) n_z.toNatClampNeg)) else (Er 1, g_z)) else (Er 1, g_z)
theorem Zmo_o {N : Nat → Int32} {a_z b_z : Nat} : ∀ {k_z j_z : Nat}, (j_z < b_z ∨ b_z + k_z ≤ j_z) → Zmo N a_z b_z k_z j_z = N j_z := by
  intro k_z
  induction k_z with
  | zero => intro j_z _; rfl
  | succ k_z ih_z => intro j_z hj_z; rw [Zmo, pk_un (by omega)]; exact ih_z (by omega)
theorem Zmo_i {N : Nat → Int32} {a_z b_z : Nat} : ∀ {k_z i_z : Nat}, i_z < k_z → Zmo N a_z b_z k_z (b_z + i_z) = N (a_z + i_z) := by
  intro k_z
  induction k_z with
  | zero => intro i_z h_z; exact absurd h_z (Nat.not_lt_zero _)
  | succ k_z ih_z =>
    intro i_z hi_z
    rw [Zmo]
    by_cases e_z : i_z = k_z
    · subst e_z; exact pk_us
    · rw [pk_un (by omega)]; exact ih_z (by omega)
theorem Zsiv_t {g_z : Zsn} (h_z : Zsiv g_z) {t : Nat} (ht_z : t < 4) {b_z n_z : Int32} {N : Nat → Int32} (hb_z : Zbt b_z) (hn_z : ∃ s_z, s_z ≤ 24 ∧ n_z = nI s_z) : Zsiv (upd g_z.1 t b_z, upd g_z.2.1 t n_z, N) := by
  intro t' h'
  by_cases e_z : t' = t
  · subst e_z
    show Zbt (upd g_z.1 t' b_z t') ∧ ∃ s_z, s_z ≤ 24 ∧ upd g_z.2.1 t' n_z t' = nI s_z
    rw [pk_us, pk_us]
    exact ⟨hb_z, hn_z⟩
  · show Zbt (upd g_z.1 t b_z t') ∧ ∃ s_z, s_z ≤ 24 ∧ upd g_z.2.1 t n_z t' = nI s_z
    rw [pk_un e_z, pk_un e_z]
    exact h_z t' h'
theorem Zshx (v_z : Int32) (s_z w_z : Nat) (hs_z : s_z + w_z = 32) (hw_z : 0 < w_z) : (v_z.toBitVec <<< s_z).sshiftRight s_z = ((v_z.toBitVec.setWidth w_z).signExtend 32) := by
  apply BitVec.eq_of_getLsbD_eq
  intro i_z hi_z
  rw [BitVec.getLsbD_sshiftRight, BitVec.getLsbD_signExtend, BitVec.msb_eq_getLsbD_last, BitVec.msb_eq_getLsbD_last]
  by_cases h_z : i_z < w_z
  · have h1_z : s_z + i_z < 32 := by omega
    rw [if_pos h1_z, if_pos h_z, BitVec.getLsbD_shiftLeft, BitVec.getLsbD_setWidth]
    have h2_z : ¬ s_z + i_z < s_z := by omega
    have h3_z : ¬ 32 ≤ i_z := by omega
    simp [h_z, h1_z, h2_z, h3_z, hi_z, show s_z + i_z - s_z = i_z by omega]
  · have h1_z : ¬ s_z + i_z < 32 := by omega
    rw [if_neg h1_z, if_neg h_z, BitVec.getLsbD_shiftLeft, BitVec.getLsbD_setWidth]
    have h2_z : ¬ 32 - 1 < s_z := by omega
    have h3_z : ¬ 32 ≤ i_z := by omega
    have h4_z : w_z - 1 < w_z := by omega
    simp [h2_z, h3_z, hi_z, h4_z, show 32 - 1 - s_z = w_z - 1 by omega]
    try omega
theorem Zsh8 (v_z : Int32) : (v_z <<< (nI 24 &&& 31)) >>> (nI 24 &&& 31) = v_z.toInt8.toInt32 := by
  apply Int32.toBitVec_inj.1
  have h_z := Zshx v_z 24 8 rfl (by decide)
  have e_z : ((nI 24 &&& 31).toBitVec.smod 32).toNat = 24 := by decide +kernel
  show (v_z.toBitVec <<< ((nI 24 &&& 31).toBitVec.smod 32).toNat).sshiftRight ((nI 24 &&& 31).toBitVec.smod 32).toNat = (v_z.toBitVec.signExtend 8).signExtend 32
  rw [e_z, h_z, BitVec.signExtend_eq_setWidth_of_le v_z.toBitVec (show 8 ≤ 32 by decide)]
theorem Zsh16 (v_z : Int32) : (v_z <<< (nI 16 &&& 31)) >>> (nI 16 &&& 31) = v_z.toInt16.toInt32 := by
  apply Int32.toBitVec_inj.1
  have h_z := Zshx v_z 16 16 rfl (by decide)
  have e_z : ((nI 16 &&& 31).toBitVec.smod 32).toNat = 16 := by decide +kernel
  show (v_z.toBitVec <<< ((nI 16 &&& 31).toBitVec.smod 32).toNat).sshiftRight ((nI 16 &&& 31).toBitVec.smod 32).toNat = (v_z.toBitVec.signExtend 16).signExtend 32
  rw [e_z, h_z, BitVec.signExtend_eq_setWidth_of_le v_z.toBitVec (show 16 ≤ 32 by decide)]
theorem Zsh0 (v_z : Int32) : (v_z <<< (nI 0 &&& 31)) >>> (nI 0 &&& 31) = v_z := by
  apply Int32.toBitVec_inj.1
  have e_z : ((nI 0 &&& 31).toBitVec.smod 32).toNat = 0 := by decide +kernel
  show (v_z.toBitVec <<< ((nI 0 &&& 31).toBitVec.smod 32).toNat).sshiftRight ((nI 0 &&& 31).toBitVec.smod 32).toNat = v_z.toBitVec
  rw [e_z]
  simp
theorem Zshw {b_z : Int32} (hb_z : Zbt b_z) (h0_z : ¬ b_z = nI 0) (v_z : Int32) : (v_z <<< ((nI 32 - b_z) &&& 31)) >>> ((nI 32 - b_z) &&& 31) = Znw b_z v_z := by
  rcases hb_z with rfl | rfl | rfl | rfl
  · exact absurd rfl h0_z
  · rw [show nI 32 - nI 8 = nI 24 from pk_sub (by decide), Zsh8]; rfl
  · rw [show nI 32 - nI 16 = nI 16 from pk_sub (by decide), Zsh16]; rfl
  · rw [show nI 32 - nI 32 = nI 0 from pk_sub (by decide), Zsh0]; rfl
/-- numbers become tensions: how many, from k_z on -/
def Zte (N : Nat → Int32) (t s_z n_z : Nat) : Nat → Nat → (Nat → Int32) → Nat × (Nat → Int32)
  | 0, k_z, f_z => (k_z, f_z)
  | q_z + 1, k_z, f_z => if k_z < s_z ∧ k_z < n_z ∧ -(nI 9) ≤ N (24 * t + k_z) ∧ N (24 * t + k_z) ≤ nI 9 then Zte N t s_z n_z q_z (k_z + 1) (upd f_z (12 + 5 * k_z) (N (24 * t + k_z))) else (k_z, f_z)
def Fwhy (g_z : Zsn) (sh : Int32) : Nat := if nI 0 ≤ sh ∧ sh ≤ nI 3 then (if g_z.1 sh.toNatClampNeg = nI 0 then 2 else 0) else 1
def Ften (g_z : Zsn) (f_z : Nat → Int32) (n_z : Nat) (sh : Int32) : Zan_ := if Fwhy g_z sh = 0 then (nI (Zte g_z.2.2 sh.toNatClampNeg (g_z.2.1 sh.toNatClampNeg).toNatClampNeg n_z 24 0 f_z).1, (Zte g_z.2.2 sh.toNatClampNeg (g_z.2.1 sh.toNatClampNeg).toNatClampNeg n_z 24 0 f_z).2) else (Er (Fwhy g_z sh), f_z)
/-- how many numbers are yarn, from k_z on -/
def Zju (N f_z : Nat → Int32) (t s_z n_z : Nat) : Nat → Nat → Nat
  | 0, k_z => k_z
  | q_z + 1, k_z => if k_z < s_z ∧ k_z < n_z ∧ N (24 * t + k_z) = Zyo f_z k_z then Zju N f_z t s_z n_z q_z (k_z + 1) else k_z
def Fjudge (g_z : Zsn) (f_z : Nat → Int32) (n_z : Nat) (sh : Int32) : Int32 := if Fwhy g_z sh = 0 then nI (Zju g_z.2.2 f_z sh.toNatClampNeg (g_z.2.1 sh.toNatClampNeg).toNatClampNeg n_z 24 0) else Er (Fwhy g_z sh)
theorem Fwhy_lt (g_z : Zsn) (sh : Int32) : Fwhy g_z sh = 0 ∨ Fwhy g_z sh = 1 ∨ Fwhy g_z sh = 2 := by
  unfold Fwhy
  split
  · split <;> omega
  · omega
theorem Fwhy_0 {g_z : Zsn} {sh : Int32} (h_z : Fwhy g_z sh = 0) : ∃ t, t < 4 ∧ sh = nI t ∧ sh.toNatClampNeg = t ∧ ¬ g_z.1 t = nI 0 := by
  unfold Fwhy at h_z
  split at h_z
  · rename_i h1_z
    obtain ⟨t, ht_z, rfl⟩ := Zbt_ex (b_z := 3) (by decide) h1_z
    rw [Zcl_n (show t < 2 ^ 31 by omega)] at h_z
    split at h_z
    · exact absurd h_z (by decide)
    · rename_i h2_z
      exact ⟨t, by omega, rfl, Zcl_n (by omega), h2_z⟩
  · exact absurd h_z (by decide)
theorem Zte_fi {N : Nat → Int32} {t s_z n_z : Nat} (hn_z : n_z ≤ 15) : ∀ (q_z k_z : Nat) (f_z : Nat → Int32), Zfi f_z → f_z 7 = nI n_z → Zfi (Zte N t s_z n_z q_z k_z f_z).2 ∧ (Zte N t s_z n_z q_z k_z f_z).2 7 = nI n_z := by
  intro q_z
  induction q_z with
  | zero => intro k_z f_z h_z h7_z; exact ⟨h_z, h7_z⟩
  | succ q_z ih_z =>
    intro k_z f_z h_z h7_z
    rw [Zte]
    split
    · rename_i c_z
      obtain ⟨c1_z, c2, c3, c4⟩ := c_z
      refine ih_z (k_z + 1) _ (Zfi_te h_z (by omega) ?_) (by rw [pk_un (by omega)]; exact h7_z)
      rw [Zle_i, Zneg9] at c3
      rw [Zle_i, Zn_i (by decide)] at c4
      exact ⟨c3, c4⟩
    · exact ⟨h_z, h7_z⟩
theorem Zsiv_n {g_z : Zsn} (h_z : Zsiv g_z) (N : Nat → Int32) : Zsiv (g_z.1, g_z.2.1, N) := h_z
