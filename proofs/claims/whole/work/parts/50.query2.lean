/-! THE PURE PART: mark, its pieces -/
/-- is one of this KIND -/
abbrev zf_ofk (kd : Int32) (a : Nat) : Prop := kd = nI a ∨ (a = 1 ∧ kd = 4) ∨ (a = 3 ∧ kd = 5)
theorem zc_isOfKind (d : Nat) (M : zi_M) (kd : Int32) {a : Nat} (ha : a < 6) : zi_run d zm_X9_isOfKind 0 [some (.inl kd), some (.inl (nI a))] [] M = if zf_ofk kd a then some (some (.inl 1), M) else some (some (.inl 0), M) := by
  rw [ze_X9_isOfKind_0]
  by_cases h : kd = nI a
  · rw [if_pos h, if_pos (Or.inl h)]
  · rw [if_neg h]
    by_cases h1 : a = 1
    · subst h1
      by_cases h4 : kd = 4
      · rw [if_pos (show zf_ofk kd 1 from Or.inr (Or.inl ⟨rfl, h4⟩))]
        simp (disch := omega) only [↓zp_dn, ↓zp_hV, ↓zp_hI, ↓zp_hL, ↓zp_hR, ↓zp_hX, zp_eV, zp_eI, zp_eL, zp_eR, zp_eX, zp_eXl, zp_iV, zp_iI, zp_iL, zp_iR, ↓zp_sm, ↓zp_nls, ↓zp_nln, zp_bo0, zp_bo1, zp_okE, zp_ok2E, zp_rfE, ↓reduceIte, if_true, if_false, zp_leT, zp_leF, zp_ltT, zp_ltF, zp_eqT, zp_eqF, zp_leTl, zp_leFl, zp_ltTl, zp_ltFl, zp_leTr, zp_leFr, zp_ltTr, zp_ltFr, zp_eqTr, zp_eqFr, zp_eqTl, zp_eqFl, zp_eqFll, eq_self, zp_addl, zp_addr, zp_mull, zp_mulr, zp_subr, zp_subl, nI_add, pk_mul, if_pos h4]
      · rw [if_neg (show ¬ zf_ofk kd 1 from fun e => e.elim h (fun e => e.elim (fun e => h4 e.2) (fun e => absurd e.1 (by decide))))]
        simp (disch := omega) only [↓zp_dn, ↓zp_hV, ↓zp_hI, ↓zp_hL, ↓zp_hR, ↓zp_hX, zp_eV, zp_eI, zp_eL, zp_eR, zp_eX, zp_eXl, zp_iV, zp_iI, zp_iL, zp_iR, ↓zp_sm, ↓zp_nls, ↓zp_nln, zp_bo0, zp_bo1, zp_okE, zp_ok2E, zp_rfE, ↓reduceIte, if_true, if_false, zp_leT, zp_leF, zp_ltT, zp_ltF, zp_eqT, zp_eqF, zp_leTl, zp_leFl, zp_ltTl, zp_ltFl, zp_leTr, zp_leFr, zp_ltTr, zp_ltFr, zp_eqTr, zp_eqFr, zp_eqTl, zp_eqFl, zp_eqFll, eq_self, zp_addl, zp_addr, zp_mull, zp_mulr, zp_subr, zp_subl, nI_add, pk_mul, if_neg h4, ze_X9_isOfKind_15]
    · by_cases h3 : a = 3
      · subst h3
        by_cases h5 : kd = 5
        · rw [if_pos (show zf_ofk kd 3 from Or.inr (Or.inr ⟨rfl, h5⟩))]
          simp (disch := omega) only [↓zp_dn, ↓zp_hV, ↓zp_hI, ↓zp_hL, ↓zp_hR, ↓zp_hX, zp_eV, zp_eI, zp_eL, zp_eR, zp_eX, zp_eXl, zp_iV, zp_iI, zp_iL, zp_iR, ↓zp_sm, ↓zp_nls, ↓zp_nln, zp_bo0, zp_bo1, zp_okE, zp_ok2E, zp_rfE, ↓reduceIte, if_true, if_false, zp_leT, zp_leF, zp_ltT, zp_ltF, zp_eqT, zp_eqF, zp_leTl, zp_leFl, zp_ltTl, zp_ltFl, zp_leTr, zp_leFr, zp_ltTr, zp_ltFr, zp_eqTr, zp_eqFr, zp_eqTl, zp_eqFl, zp_eqFll, eq_self, zp_addl, zp_addr, zp_mull, zp_mulr, zp_subr, zp_subl, nI_add, pk_mul, if_pos h5, ze_X9_isOfKind_15]
        · rw [if_neg (show ¬ zf_ofk kd 3 from fun e => e.elim h (fun e => e.elim (fun e => absurd e.1 (by decide)) (fun e => h5 e.2)))]
          simp (disch := omega) only [↓zp_dn, ↓zp_hV, ↓zp_hI, ↓zp_hL, ↓zp_hR, ↓zp_hX, zp_eV, zp_eI, zp_eL, zp_eR, zp_eX, zp_eXl, zp_iV, zp_iI, zp_iL, zp_iR, ↓zp_sm, ↓zp_nls, ↓zp_nln, zp_bo0, zp_bo1, zp_okE, zp_ok2E, zp_rfE, ↓reduceIte, if_true, if_false, zp_leT, zp_leF, zp_ltT, zp_ltF, zp_eqT, zp_eqF, zp_leTl, zp_leFl, zp_ltTl, zp_ltFl, zp_leTr, zp_leFr, zp_ltTr, zp_ltFr, zp_eqTr, zp_eqFr, zp_eqTl, zp_eqFl, zp_eqFll, eq_self, zp_addl, zp_addr, zp_mull, zp_mulr, zp_subr, zp_subl, nI_add, pk_mul, if_neg h5, ze_X9_isOfKind_15]
      · rw [if_neg (show ¬ zf_ofk kd a from fun e => e.elim h (fun e => e.elim (fun e => h1 e.1) (fun e => h3 e.1)))]
        simp (disch := omega) only [↓zp_dn, ↓zp_hV, ↓zp_hI, ↓zp_hL, ↓zp_hR, ↓zp_hX, zp_eV, zp_eI, zp_eL, zp_eR, zp_eX, zp_eXl, zp_iV, zp_iI, zp_iL, zp_iR, ↓zp_sm, ↓zp_nls, ↓zp_nln, zp_bo0, zp_bo1, zp_okE, zp_ok2E, zp_rfE, ↓reduceIte, if_true, if_false, zp_leT, zp_leF, zp_ltT, zp_ltF, zp_eqT, zp_eqF, zp_leTl, zp_leFl, zp_ltTl, zp_ltFl, zp_leTr, zp_leFr, zp_ltTr, zp_ltFr, zp_eqTr, zp_eqFr, zp_eqTl, zp_eqFl, zp_eqFll, eq_self, zp_addl, zp_addr, zp_mull, zp_mulr, zp_subr, zp_subl, nI_add, pk_mul, ze_X9_isOfKind_15]
/-- what mark answers -/
def zf_mk (A : zf_A) (K : zf_K) (i a : Nat) : Int32 := if a = 1 then zf_cost (K.2.2.1 i).1 (K.2.2.1 i).2.2.1 2 else if a = 2 then 2 * zi_max 0 ((nI (A.2.1 - 1) + K.1) - 4) else if a = 3 then zf_cost (K.2.2.1 i).1 (K.2.2.1 i).2.2.1 1 else if a = 4 then nI (A.1 - 1) - nI (zf_sp K i).1 else nI (zf_oth K i (zf_sp K i).1 K.2.1)
theorem zc_markE (d : Nat) {M : zi_M} {A : zf_A} {K : zf_K} (hS : zq_sky M A K) {i a : Nat} (hi : i < K.2.1) (ha1 : 1 ≤ a) (ha5 : a ≤ 5) (hk : zf_ofk (K.2.2.1 i).1 a) : (zi_sw (nI a) 83 1 4 #[30, 39, 56, 65] (fun off => zi_to 58 off (fun t => zi_run (d + 1) zm_X9_mark t (zi_kc zm_X9_mark t [some (.inr (.inr (9, some 0))), some (.inl (nI i)), some (.inl (nI a)), some (.inr (.inr (1, some i)))]) [] (zp_bd M (zf_en A K i))))) = some (some (.inl (zf_mk A K i a)), zp_bd M (zf_en A K i)) := by
  have h4 := hS.2.1.1
  obtain ⟨hE, hok, hsp⟩ := zq_fl hS hi
  have nb1 : zq_nb M (zp_bd M (zf_en A K i)) := zq_nb_bd (zq_nb_rfl M) _
  have hS1 := zq_sky_nb nb1 hS
  obtain ⟨a1, a2, a3, a4⟩ := hE
  have q1 : (zp_bd M (zf_en A K i)).1 0 0 1 = nI A.1 := hS1.2.2.1.1
  have q2 : (zp_bd M (zf_en A K i)).1 0 0 2 = nI A.2.1 := hS1.2.2.1.2.1
  have q7 : (zp_bd M (zf_en A K i)).1 7 i 0 = nI (zf_sp K i).1 := (zq_fl hS1 hi).2.2.1
  have p1 : (zp_bd M (zf_en A K i)).1 2 0 1 = (K.2.2.1 i).1 := by simp [zp_bd, zp_sI1]
  have p3 : (zp_bd M (zf_en A K i)).1 2 0 3 = (K.2.2.1 i).2.2.1 := by simp [zp_bd, zp_sI1]
  have p4 : (zp_bd M (zf_en A K i)).1 2 0 4 = K.1 := by simp [zp_bd, zp_sI1]
  have hc : (zf_sp K i).1 < A.1 := hok.1
  have ha' : a = 1 ∨ a = 2 ∨ a = 3 ∨ a = 4 ∨ a = 5 := by omega
  rcases ha' with e | e | e | e | e <;> subst e
  · rw [zp_swm1, zp_tom1, zp_kcm1, ze_X9_mark_88, zp_dn, show (2 : Int32) = nI 2 from rfl, zc_cost _ _ 2 (by decide), zp_cI, p1, p3]; rfl
  · have k2 : (K.2.2.1 i).1 = 2 := hk.elim (fun e => e) (fun e => e.elim (fun e => absurd e.1 (by decide)) (fun e => absurd e.1 (by decide)))
    rw [zp_swm2, zp_tom2, zp_kcm2, ze_X9_mark_97, zp_dn, ze_X2_warmth_0, p1, p4, q2, k2, if_neg (by decide), if_pos rfl, zp_cI, show nI A.2.1 - 1 = nI (A.2.1 - 1) from pk_sub a3]; rfl
  · rw [zp_swm3, zp_tom3, zp_kcm3, ze_X9_mark_114, zp_dn, show (1 : Int32) = nI 1 from rfl, zc_cost _ _ 1 (by decide), zp_cI, p1, p3]; rfl
  · rw [zp_swm4, zp_tom4, zp_kcm4, ze_X9_mark_123, zp_sm, q1, q7, show nI A.1 - 1 = nI (A.1 - 1) from pk_sub (a := A.1) (b := 1) (by omega)]; rfl
  · rw [zp_swm5, zp_tom5, zp_kcm5, ze_X9_mark_141, zp_sm, zp_dn, q7, zc_others _ hS1 (by omega) (by omega), zp_cI]; rfl
theorem zr_markE (d : Nat) {M : zi_M} {A : zf_A} {K : zf_K} (hS : zq_sky M A K) {i a : Nat} (hi : i < K.2.1) (ha1 : 1 ≤ a) (ha5 : a ≤ 5) : zi_run (d + 2) zm_X10_mark 83 [some (.inr (.inr (10, some 0))), some (.inl (nI i)), some (.inl (nI a)), none, some (.inl 0), some (.inl 0)] [] (zp_rt M (zf_en A K i) (zf_sp K i)) = some (some (.inl (zf_mk A K i a)), zp_rt M (zf_en A K i) (zf_sp K i)) := by
  have h4 := hS.2.1.1
  obtain ⟨hE, hok, hsp⟩ := zq_fl hS hi
  have hE' := hE
  obtain ⟨a1, a2, a3, a4⟩ := hE'
  have hR1 : zf_rK ((zp_rt M (zf_en A K i) (zf_sp K i)).1 28 0) K := hS.2.2.2.2.2.1
  have hA1 : zf_rA ((zp_rt M (zf_en A K i) (zf_sp K i)).1 28 0) A := hS.2.2.2.2.1
  have m17 : (zp_rt M (zf_en A K i) (zf_sp K i)).1 10 0 17 = (K.2.2.1 i).1 := by simp [zp_rt1]
  have m18 : (zp_rt M (zf_en A K i) (zf_sp K i)).1 10 0 18 = nI (zf_sp K i).1 := by simp [zp_rt1, zf_wr]
  have m25 : (zp_rt M (zf_en A K i) (zf_sp K i)).1 10 0 25 = (K.2.2.1 i).2.2.1 := by simp [zp_rt1]
  have m26 : (zp_rt M (zf_en A K i) (zf_sp K i)).1 10 0 26 = K.1 := by simp [zp_rt1]
  have m3 : (zp_rt M (zf_en A K i) (zf_sp K i)).1 28 0 3 = nI K.2.1 := hR1.2.1
  have mH : (zp_rt M (zf_en A K i) (zf_sp K i)).1 28 0 1 = nI A.2.1 := hA1.2.1
  have hc : (zf_sp K i).1 < A.1 := hok.1
  rw [zr_beside (d + 1) hS.2.1 (by omega) hR1 (by omega) (show (zf_sp K i).1 < 8 from by omega) m18, ze_X10_mark_83]
  generalize zp_rt M (zf_en A K i) (zf_sp K i) = M2 at *
  have ha' : a = 1 ∨ a = 2 ∨ a = 3 ∨ a = 4 ∨ a = 5 := by omega
  rcases ha' with e | e | e | e | e <;> subst e
  · simp (disch := omega) only [m3, m18, ze_X10_mark_157, ↓zp_dn, ↓zp_hV, ↓zp_hI, ↓zp_hL, ↓zp_hR, ↓zp_hX, zp_eV, zp_eI, zp_eL, zp_eR, zp_eX, zp_eXl, zp_iV, zp_iI, zp_iL, zp_iR, ↓zp_sm, ↓zp_nls, ↓zp_nln, zp_bo0, zp_bo1, zp_okE, zp_ok2E, zp_rfE, ↓reduceIte, if_true, if_false, zp_leT, zp_leF, zp_ltT, zp_ltF, zp_eqT, zp_eqF, zp_leTl, zp_leFl, zp_ltTl, zp_ltFl, zp_leTr, zp_leFr, zp_ltTr, zp_ltFr, zp_eqTr, zp_eqFr, zp_eqTl, zp_eqFl, zp_eqFll, eq_self, zp_addl, zp_addr, zp_mull, zp_mulr, zp_subr, zp_subl, nI_add, pk_mul]
    rw [show (2 : Int32) = nI 2 from rfl, zr_costs _ _ 2 (by decide), zp_eI, m17, m25]; rfl
  · simp (disch := omega) only [m3, m18, ze_X10_mark_157, mH, m26, zr_more, ↓zp_dn, ↓zp_hV, ↓zp_hI, ↓zp_hL, ↓zp_hR, ↓zp_hX, zp_eV, zp_eI, zp_eL, zp_eR, zp_eX, zp_eXl, zp_iV, zp_iI, zp_iL, zp_iR, ↓zp_sm, ↓zp_nls, ↓zp_nln, zp_bo0, zp_bo1, zp_okE, zp_ok2E, zp_rfE, ↓reduceIte, if_true, if_false, zp_leT, zp_leF, zp_ltT, zp_ltF, zp_eqT, zp_eqF, zp_leTl, zp_leFl, zp_ltTl, zp_ltFl, zp_leTr, zp_leFr, zp_ltTr, zp_ltFr, zp_eqTr, zp_eqFr, zp_eqTl, zp_eqFl, zp_eqFll, eq_self, zp_addl, zp_addr, zp_mull, zp_mulr, zp_subr, zp_subl, nI_add, pk_mul]; rfl
  · simp (disch := omega) only [m3, m18, ze_X10_mark_157, ↓zp_dn, ↓zp_hV, ↓zp_hI, ↓zp_hL, ↓zp_hR, ↓zp_hX, zp_eV, zp_eI, zp_eL, zp_eR, zp_eX, zp_eXl, zp_iV, zp_iI, zp_iL, zp_iR, ↓zp_sm, ↓zp_nls, ↓zp_nln, zp_bo0, zp_bo1, zp_okE, zp_ok2E, zp_rfE, ↓reduceIte, if_true, if_false, zp_leT, zp_leF, zp_ltT, zp_ltF, zp_eqT, zp_eqF, zp_leTl, zp_leFl, zp_ltTl, zp_ltFl, zp_leTr, zp_leFr, zp_ltTr, zp_ltFr, zp_eqTr, zp_eqFr, zp_eqTl, zp_eqFl, zp_eqFll, eq_self, zp_addl, zp_addr, zp_mull, zp_mulr, zp_subr, zp_subl, nI_add, pk_mul]
    rw [show (1 : Int32) = nI 1 from rfl, zr_costs _ _ 1 (by decide), zp_eI, m17, m25]; rfl
  · simp (disch := omega) only [m3, m18, ze_X10_mark_157, zr_last _ hE hA1, ↓zp_dn, ↓zp_hV, ↓zp_hI, ↓zp_hL, ↓zp_hR, ↓zp_hX, zp_eV, zp_eI, zp_eL, zp_eR, zp_eX, zp_eXl, zp_iV, zp_iI, zp_iL, zp_iR, ↓zp_sm, ↓zp_nls, ↓zp_nln, zp_bo0, zp_bo1, zp_okE, zp_ok2E, zp_rfE, ↓reduceIte, if_true, if_false, zp_leT, zp_leF, zp_ltT, zp_ltF, zp_eqT, zp_eqF, zp_leTl, zp_leFl, zp_ltTl, zp_ltFl, zp_leTr, zp_leFr, zp_ltTr, zp_ltFr, zp_eqTr, zp_eqFr, zp_eqTl, zp_eqFl, zp_eqFll, eq_self, zp_addl, zp_addr, zp_mull, zp_mulr, zp_subr, zp_subl, nI_add, pk_mul]; rfl
  · simp (disch := omega) only [m3, m18, ze_X10_mark_157, ↓zp_dn, ↓zp_hV, ↓zp_hI, ↓zp_hL, ↓zp_hR, ↓zp_hX, zp_eV, zp_eI, zp_eL, zp_eR, zp_eX, zp_eXl, zp_iV, zp_iI, zp_iL, zp_iR, ↓zp_sm, ↓zp_nls, ↓zp_nln, zp_bo0, zp_bo1, zp_okE, zp_ok2E, zp_rfE, ↓reduceIte, if_true, if_false, zp_leT, zp_leF, zp_ltT, zp_ltF, zp_eqT, zp_eqF, zp_leTl, zp_leFl, zp_ltTl, zp_ltFl, zp_leTr, zp_leFr, zp_ltTr, zp_ltFr, zp_eqTr, zp_eqFr, zp_eqTl, zp_eqFl, zp_eqFll, eq_self, zp_addl, zp_addr, zp_mull, zp_mulr, zp_subr, zp_subl, nI_add, pk_mul]; rfl
theorem zr_markK (d : Nat) {M : zi_M} {kd : Int32} (h17 : M.1 10 0 17 = kd) {i a : Nat} (ha : a < 6) : (if M.1 10 0 17 = nI a then zi_run d zm_X10_mark 61 [some (.inr (.inr (10, some 0))), some (.inl (nI i)), some (.inl (nI a)), none, none, none] [] M else (if (nI a) = 1 then (if (M.1 10 0 17) = 4 then zi_run d zm_X10_mark 61 [some (.inr (.inr (10, some 0))), some (.inl (nI i)), some (.inl (nI a)), none, none, none] [] M else zi_run d zm_X10_mark 48 [some (.inr (.inr (10, some 0))), some (.inl (nI i)), some (.inl (nI a)), none, none, none] [] M) else zi_run d zm_X10_mark 48 [some (.inr (.inr (10, some 0))), some (.inl (nI i)), some (.inl (nI a)), none, none, none] [] M)) = if zf_ofk kd a then zi_run d zm_X10_mark 83 [some (.inr (.inr (10, some 0))), some (.inl (nI i)), some (.inl (nI a)), none, some (.inl 0), some (.inl 0)] [] M else zi_cI (zi_dn d (fun e => zi_run e zm_X10_finds 0 [some (.inr (.inr (10, some 0))), some (.inl 3)] [] M)) (fun x22 M21 => some (some (.inl x22), M21)) := by
  have hT : zi_run d zm_X10_mark 61 [some (.inr (.inr (10, some 0))), some (.inl (nI i)), some (.inl (nI a)), none, none, none] [] M = zi_run d zm_X10_mark 83 [some (.inr (.inr (10, some 0))), some (.inl (nI i)), some (.inl (nI a)), none, some (.inl 0), some (.inl 0)] [] M := by rw [ze_X10_mark_61, ze_X10_mark_66, if_neg (by decide)]
  have hF : zi_run d zm_X10_mark 65 [some (.inr (.inr (10, some 0))), some (.inl (nI i)), some (.inl (nI a)), none, none, none] [] M = zi_cI (zi_dn d (fun e => zi_run e zm_X10_finds 0 [some (.inr (.inr (10, some 0))), some (.inl 3)] [] M)) (fun x22 M21 => some (some (.inl x22), M21)) := by rw [ze_X10_mark_65, ze_X10_mark_66, if_pos rfl]
  rw [hT, ze_X10_mark_48, hT, hF, h17]
  by_cases h : kd = nI a
  · rw [if_pos h, if_pos (Or.inl h)]
  · rw [if_neg h]
    by_cases h1 : a = 1
    · subst h1
      by_cases h4 : kd = 4
      · rw [if_pos (show nI 1 = 1 from rfl), if_pos h4, if_pos (show zf_ofk kd 1 from Or.inr (Or.inl ⟨rfl, h4⟩))]
      · rw [if_pos (show nI 1 = 1 from rfl), if_neg h4, if_neg (show ¬ nI 1 = 3 from by decide), if_neg (show ¬ zf_ofk kd 1 from fun e => e.elim h (fun e => e.elim (fun e => h4 e.2) (fun e => absurd e.1 (by decide))))]
    · rw [if_neg (show ¬ nI a = 1 from fun e => h1 ((nI_eq (b := 1) (by omega) (by omega)).mp e))]
      by_cases h3 : a = 3
      · subst h3
        by_cases h5 : kd = 5
        · rw [if_pos (show nI 3 = 3 from rfl), if_pos h5, if_pos (show zf_ofk kd 3 from Or.inr (Or.inr ⟨rfl, h5⟩))]
        · rw [if_pos (show nI 3 = 3 from rfl), if_neg h5, if_neg (show ¬ zf_ofk kd 3 from fun e => e.elim h (fun e => e.elim (fun e => absurd e.1 (by decide)) (fun e => h5 e.2)))]
      · rw [if_neg (show ¬ nI a = 3 from fun e => h3 ((nI_eq (b := 3) (by omega) (by omega)).mp e)), if_neg (show ¬ zf_ofk kd a from fun e => e.elim h (fun e => e.elim (fun e => h1 e.1) (fun e => h3 e.1)))]
