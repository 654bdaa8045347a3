/-! THE SIMULATION: one step more -/
theorem zi_du_v {S : zi_S} {K : zi_S → zi_O} {q : Option zi_V × zi_M} (h : zi_du S K = some q) : ∃ a T, S = a :: T ∧ zi_ct a = 1 ∧ K (a :: a :: T) = some q := by
  unfold zi_du at h; split at h
  · exact ⟨_, _, rfl, rfl, h⟩
  · exact ⟨_, _, rfl, rfl, h⟩
  · cases h
theorem zi_d2_v {S : zi_S} {K : zi_S → zi_O} {q : Option zi_V × zi_M} (h : zi_d2 S K = some q) : ∃ a b T, S = a :: b :: T ∧ zi_ct a = 1 ∧ zi_ct b = 1 ∧ K (a :: b :: a :: b :: T) = some q := by
  unfold zi_d2 at h; split at h
  · exact ⟨_, _, _, rfl, rfl, rfl, h⟩
  · cases h
theorem zi_po_v {S : zi_S} {K : zi_S → zi_O} {q : Option zi_V × zi_M} (h : zi_po S K = some q) : ∃ a T, S = a :: T ∧ zi_ct a = 1 ∧ K T = some q := by
  unfold zi_po at h; split at h
  · exact ⟨_, _, rfl, rfl, h⟩
  · exact ⟨_, _, rfl, rfl, h⟩
  · cases h
theorem zi_nfw : nativeFrameWords "java/lang/System" "arraycopy" 5 = 7 := by decide
set_option maxHeartbeats 8000000 in
set_option maxRecDepth 20000 in
theorem zi_sim1 {l : Launch} {D : va_G} {ca : Nat → ClassId} {ad : Nat → Nat → Nat} {A : Nat → Prop} {n : Nat} (hs : zi_Sim l D ca ad A n) : zi_Sim l D ca ad A (n + 1) := by
  intro d r pc L S M v M' hgo p e R s m args below meth c H locs cells slots ls Q hC hD hend
  obtain ⟨hx, hb, hml, hown, hg, hdk, hK, hZ, hN, hR1, hR2, hR3, hR4⟩ := id hC
  obtain ⟨hH, hS, hL, vL, vS⟩ := hD
  have nxt : ∀ {t : Nat} {L' : zi_L} {S' : zi_S} {M2 : zi_M} {ls' : Array Slot} {H' : Heap} {locs' : List Loc}, zi_k (zi_go n) (zi_go n) d r t L' S' M2 = some (v, M') → zi_H D ca ad A M2 s H' → va_S A s.heap H' locs' → zi_Lr ad ls' (zi_ml r) L' → (∀ (i : Nat) (u : zi_V), L'[i]? = some (some u) → zi_vl u) → (∀ u ∈ S', zi_vl u) → W p l e R s m args below meth c H' locs' cells slots Q (F0 m t ls' (S'.map (zi_cv ad))) := by
    intro t L' S' M2 ls' H' locs' h1 h2 h3 h4 h5 h6
    unfold zi_k at h1
    split at h1
    · next ks _ => exact hs d r t _ S' M2 v M' h1 p e R s m args below meth c H' locs' cells slots ls' Q hC ⟨h2, h3, zi_Lr_kl ks h4, fun i u hu => h5 i u (zi_klg ks _ 0 i u hu), h6⟩ hend
    · exact hs d r t _ S' M2 v M' h1 p e R s m args below meth c H' locs' cells slots ls' Q hC ⟨h2, h3, h4, h5, h6⟩ hend
  have nsw : ∀ {t : Nat} {S' : zi_S}, zi_go n d r t (zi_kc r t L) S' M = some (v, M') → (∀ u ∈ S', zi_vl u) → W p l e R s m args below meth c H locs cells slots Q (F0 m t ls (S'.map (zi_cv ad))) := by
    intro t S' h1 h6
    unfold zi_kc at h1
    split at h1
    · next ks _ => exact hs d r t _ S' M v M' h1 p e R s m args below meth c H locs cells slots ls Q hC ⟨hH, hS, zi_Lr_kl ks hL, fun i u hu => vL i u (zi_klg ks _ 0 i u hu), h6⟩ hend
    · exact hs d r t _ S' M v M' h1 p e R s m args below meth c H locs cells slots ls Q hC ⟨hH, hS, hL, vL, h6⟩ hend
  change zi_F (zi_go n) (zi_go n) d r pc L S M = some (v, M') at hgo
  unfold zi_F at hgo
  split at hgo
  · cases hgo
  · next i hi =>
    obtain ⟨k0, hd0, hk0⟩ := zi_dec hdk hi
    have hdn : ∀ k, zi_n i = k + 1 → decode (zi_by r) pc = .ok (i, k + 1) := by
      intro k hk
      rcases hk0 with h | h
      · rw [hk] at h; cases h
      · rw [hd0, h, hk]
    cases i with
    | iconst x =>
      simp only [zi_st] at hgo
      exact lv_iconst hx hb (hdn 0 rfl) rfl (nxt hgo hH hS hL vL (zi_vc True.intro vS))
    | bipush x =>
      simp only [zi_st] at hgo
      exact lv_bipush hx hb (hdn 1 rfl) rfl (nxt hgo hH hS hL vL (zi_vc True.intro vS))
    | sipush x =>
      simp only [zi_st] at hgo
      exact lv_sipush hx hb (hdn 2 rfl) rfl (nxt hgo hH hS hL vL (zi_vc True.intro vS))
    | lconst x =>
      simp only [zi_st] at hgo
      exact lv_lconst hx hb (hdn 0 rfl) rfl (nxt hgo hH hS hL vL (zi_vc True.intro vS))
    | ldc idx =>
      simp only [zi_st] at hgo
      replace hgo := zi_op_v hgo
      obtain ⟨q, hq, h⟩ := hgo
      exact lv_ldc hx hb hown (hg _ (zi_kIok hq)) (hdn 1 rfl) (nxt h hH hS hL vL (zi_vc True.intro vS))
    | ldc_w idx =>
      simp only [zi_st] at hgo
      replace hgo := zi_op_v hgo
      obtain ⟨q, hq, h⟩ := hgo
      exact lv_ldcw hx hb hown (hg _ (zi_kIok hq)) (hdn 2 rfl) (nxt h hH hS hL vL (zi_vc True.intro vS))
    | ldc2_w idx =>
      simp only [zi_st] at hgo
      replace hgo := zi_op_v hgo
      obtain ⟨q, hq, h⟩ := hgo
      exact lv_ldc2 hx hb hown (hg _ (zi_kLok hq)) (hdn 2 rfl) (nxt h hH hS hL vL (zi_vc True.intro vS))
    | iload_n k =>
      simp only [zi_st] at hgo
      replace hgo := zi_li_v hgo
      obtain ⟨x, ho, h⟩ := hgo
      exact lv_iload_n hx hb (hdn 0 rfl) rfl (hL.2.2.2 _ _ ho) (nxt h hH hS hL vL (zi_vc True.intro vS))
    | iload k =>
      simp only [zi_st] at hgo
      replace hgo := zi_li_v hgo
      obtain ⟨x, ho, h⟩ := hgo
      exact lv_iload hx hb (hdn 1 rfl) (hL.2.2.2 _ _ ho) (nxt h hH hS hL vL (zi_vc True.intro vS))
    | lload_n k =>
      simp only [zi_st] at hgo
      replace hgo := zi_ll_v hgo
      obtain ⟨x, ho, h⟩ := hgo
      exact lv_lload_n hx hb (hdn 0 rfl) rfl (hL.2.2.2 _ _ ho) (nxt h hH hS hL vL (zi_vc True.intro vS))
    | lload k =>
      simp only [zi_st] at hgo
      replace hgo := zi_ll_v hgo
      obtain ⟨x, ho, h⟩ := hgo
      exact lv_lload hx hb (hdn 1 rfl) (hL.2.2.2 _ _ ho) (nxt h hH hS hL vL (zi_vc True.intro vS))
    | aload_n k =>
      simp only [zi_st] at hgo
      replace hgo := zi_la_v hgo
      obtain ⟨c0, o, ho, h⟩ := hgo
      cases o with
      | none => exact lv_aload_nN hx hb (hdn 0 rfl) rfl (hL.2.2.2 _ _ ho) (nxt h hH hS hL vL (zi_vc (vL _ _ ho) vS))
      | some k1 => exact lv_aload_n hx hb (hdn 0 rfl) rfl (hL.2.2.2 _ _ ho) (nxt h hH hS hL vL (zi_vc (vL _ _ ho) vS))
    | aload k =>
      simp only [zi_st] at hgo
      replace hgo := zi_la_v hgo
      obtain ⟨c0, o, ho, h⟩ := hgo
      cases o with
      | none => exact lv_aloadN hx hb (hdn 1 rfl) (hL.2.2.2 _ _ ho) (nxt h hH hS hL vL (zi_vc (vL _ _ ho) vS))
      | some k1 => exact lv_aload hx hb (hdn 1 rfl) (hL.2.2.2 _ _ ho) (nxt h hH hS hL vL (zi_vc (vL _ _ ho) vS))
    | istore_n k =>
      simp only [zi_st] at hgo
      replace hgo := zi_1i_v hgo
      obtain ⟨x, T, hz, h⟩ := hgo
      subst hz
      replace h := zi_p1_v h
      obtain ⟨hlt, h⟩ := h
      exact lv_istore_n hx hb (hdn 0 rfl) rfl (zi_lvh hL) (by rw [← hL.2.1]; exact hlt) rfl (fun ls' hl' => nxt h hH hS (zi_st1 hL hlt hl') (zi_vL1 vL True.intro) (zi_vt vS))
    | istore k =>
      simp only [zi_st] at hgo
      replace hgo := zi_1i_v hgo
      obtain ⟨x, T, hz, h⟩ := hgo
      subst hz
      replace h := zi_p1_v h
      obtain ⟨hlt, h⟩ := h
      exact lv_istore hx hb (hdn 1 rfl) (zi_lvh hL) (by rw [← hL.2.1]; exact hlt) rfl (fun ls' hl' => nxt h hH hS (zi_st1 hL hlt hl') (zi_vL1 vL True.intro) (zi_vt vS))
    | lstore_n k =>
      simp only [zi_st] at hgo
      replace hgo := zi_1l_v hgo
      obtain ⟨x, T, hz, h⟩ := hgo
      subst hz
      replace h := zi_p2_v h
      obtain ⟨hlt, h⟩ := h
      exact lv_lstore_n hx hb (hdn 0 rfl) rfl (zi_lvh hL) (by rw [← hL.2.1]; exact hlt) rfl (fun ls' hl' => nxt h hH hS (zi_st2 hL hlt hl') (zi_vL2 vL True.intro) (zi_vt vS))
    | lstore k =>
      simp only [zi_st] at hgo
      replace hgo := zi_1l_v hgo
      obtain ⟨x, T, hz, h⟩ := hgo
      subst hz
      replace h := zi_p2_v h
      obtain ⟨hlt, h⟩ := h
      exact lv_lstore hx hb (hdn 1 rfl) (zi_lvh hL) (by rw [← hL.2.1]; exact hlt) rfl (fun ls' hl' => nxt h hH hS (zi_st2 hL hlt hl') (zi_vL2 vL True.intro) (zi_vt vS))
    | astore_n k =>
      simp only [zi_st] at hgo
      replace hgo := zi_1r_v hgo
      obtain ⟨c0, o, T, hz, h⟩ := hgo
      subst hz
      replace h := zi_p1_v h
      obtain ⟨hlt, h⟩ := h
      cases o with
      | none => exact lv_astore_nN hx hb (hdn 0 rfl) rfl (zi_lvh hL) (by rw [← hL.2.1]; exact hlt) rfl (fun ls' hl' => nxt h hH hS (zi_st1 hL hlt hl') (zi_vL1 vL (zi_vh vS)) (zi_vt vS))
      | some k1 => exact lv_astore_n hx hb (hdn 0 rfl) rfl (zi_lvh hL) (by rw [← hL.2.1]; exact hlt) rfl (fun ls' hl' => nxt h hH hS (zi_st1 hL hlt hl') (zi_vL1 vL (zi_vh vS)) (zi_vt vS))
    | astore k =>
      simp only [zi_st] at hgo
      replace hgo := zi_1r_v hgo
      obtain ⟨c0, o, T, hz, h⟩ := hgo
      subst hz
      replace h := zi_p1_v h
      obtain ⟨hlt, h⟩ := h
      cases o with
      | none => exact lv_astoreN hx hb (hdn 1 rfl) (zi_lvh hL) (by rw [← hL.2.1]; exact hlt) rfl (fun ls' hl' => nxt h hH hS (zi_st1 hL hlt hl') (zi_vL1 vL (zi_vh vS)) (zi_vt vS))
      | some k1 => exact lv_astore hx hb (hdn 1 rfl) (zi_lvh hL) (by rw [← hL.2.1]; exact hlt) rfl (fun ls' hl' => nxt h hH hS (zi_st1 hL hlt hl') (zi_vL1 vL (zi_vh vS)) (zi_vt vS))
    | iinc k x0 =>
      simp only [zi_st] at hgo
      replace hgo := zi_li_v hgo
      obtain ⟨x, ho, h⟩ := hgo
      replace h := zi_p1_v h
      obtain ⟨hlt, h⟩ := h
      obtain ⟨k', hk'⟩ := List.getElem?_of_mem (zi_prs_in (ad := ad) ho)
      exact lv_iinc hx hb (hdn 2 rfl) (zi_lvh hL) hk' rfl (by rw [← hL.2.1]; exact hlt) rfl (fun ls' hl' => nxt h hH hS (zi_st1 (v := .inl (x + Int32.ofInt x0)) hL hlt hl') (zi_vL1 vL True.intro) vS)
    | iadd =>
      simp only [zi_st] at hgo
      replace hgo := zi_2i_v hgo
      obtain ⟨x, y, T, hz, h⟩ := hgo
      subst hz
      exact lv_iadd hx hb (hdn 0 rfl) (nxt h hH hS hL vL (zi_vc True.intro (zi_vt (zi_vt vS))))
    | isub =>
      simp only [zi_st] at hgo
      replace hgo := zi_2i_v hgo
      obtain ⟨x, y, T, hz, h⟩ := hgo
      subst hz
      exact lv_isub hx hb (hdn 0 rfl) (nxt h hH hS hL vL (zi_vc True.intro (zi_vt (zi_vt vS))))
    | imul =>
      simp only [zi_st] at hgo
      replace hgo := zi_2i_v hgo
      obtain ⟨x, y, T, hz, h⟩ := hgo
      subst hz
      exact lv_imul hx hb (hdn 0 rfl) (nxt h hH hS hL vL (zi_vc True.intro (zi_vt (zi_vt vS))))
    | idiv =>
      simp only [zi_st] at hgo
      replace hgo := zi_2i_v hgo
      obtain ⟨x, y, T, hz, h⟩ := hgo
      subst hz
      replace h := zi_itn_v h
      obtain ⟨hy, h⟩ := h
      exact lv_idiv hx hb (hdn 0 rfl) hy (nxt h hH hS hL vL (zi_vc True.intro (zi_vt (zi_vt vS))))
    | irem =>
      simp only [zi_st] at hgo
      replace hgo := zi_2i_v hgo
      obtain ⟨x, y, T, hz, h⟩ := hgo
      subst hz
      replace h := zi_itn_v h
      obtain ⟨hy, h⟩ := h
      exact lv_irem hx hb (hdn 0 rfl) hy (nxt h hH hS hL vL (zi_vc True.intro (zi_vt (zi_vt vS))))
    | iand =>
      simp only [zi_st] at hgo
      replace hgo := zi_2i_v hgo
      obtain ⟨x, y, T, hz, h⟩ := hgo
      subst hz
      exact lv_iand hx hb (hdn 0 rfl) (nxt h hH hS hL vL (zi_vc True.intro (zi_vt (zi_vt vS))))
    | ior =>
      simp only [zi_st] at hgo
      replace hgo := zi_2i_v hgo
      obtain ⟨x, y, T, hz, h⟩ := hgo
      subst hz
      exact lv_ior hx hb (hdn 0 rfl) (nxt h hH hS hL vL (zi_vc True.intro (zi_vt (zi_vt vS))))
    | ishl =>
      simp only [zi_st] at hgo
      replace hgo := zi_2i_v hgo
      obtain ⟨x, y, T, hz, h⟩ := hgo
      subst hz
      exact lv_ishl hx hb (hdn 0 rfl) (nxt h hH hS hL vL (zi_vc True.intro (zi_vt (zi_vt vS))))
    | ishr =>
      simp only [zi_st] at hgo
      replace hgo := zi_2i_v hgo
      obtain ⟨x, y, T, hz, h⟩ := hgo
      subst hz
      exact lv_ishr hx hb (hdn 0 rfl) (nxt h hH hS hL vL (zi_vc True.intro (zi_vt (zi_vt vS))))
    | iushr =>
      simp only [zi_st] at hgo
      replace hgo := zi_2i_v hgo
      obtain ⟨x, y, T, hz, h⟩ := hgo
      subst hz
      exact lv_iushr hx hb (hdn 0 rfl) rfl (nxt h hH hS hL vL (zi_vc True.intro (zi_vt (zi_vt vS))))
    | ineg =>
      simp only [zi_st] at hgo
      replace hgo := zi_1i_v hgo
      obtain ⟨x, T, hz, h⟩ := hgo
      subst hz
      exact lv_ineg hx hb (hdn 0 rfl) (nxt h hH hS hL vL (zi_vc True.intro (zi_vt vS)))
    | ladd =>
      simp only [zi_st] at hgo
      replace hgo := zi_2l_v hgo
      obtain ⟨x, y, T, hz, h⟩ := hgo
      subst hz
      exact lv_ladd hx hb (hdn 0 rfl) (nxt h hH hS hL vL (zi_vc True.intro (zi_vt (zi_vt vS))))
    | lsub =>
      simp only [zi_st] at hgo
      replace hgo := zi_2l_v hgo
      obtain ⟨x, y, T, hz, h⟩ := hgo
      subst hz
      exact lv_lsub hx hb (hdn 0 rfl) (nxt h hH hS hL vL (zi_vc True.intro (zi_vt (zi_vt vS))))
    | lmul =>
      simp only [zi_st] at hgo
      replace hgo := zi_2l_v hgo
      obtain ⟨x, y, T, hz, h⟩ := hgo
      subst hz
      exact lv_lmul hx hb (hdn 0 rfl) (nxt h hH hS hL vL (zi_vc True.intro (zi_vt (zi_vt vS))))
    | ldiv =>
      simp only [zi_st] at hgo
      replace hgo := zi_2l_v hgo
      obtain ⟨x, y, T, hz, h⟩ := hgo
      subst hz
      replace h := zi_itn_v h
      obtain ⟨hy, h⟩ := h
      exact lv_ldiv hx hb (hdn 0 rfl) hy (nxt h hH hS hL vL (zi_vc True.intro (zi_vt (zi_vt vS))))
    | lrem =>
      simp only [zi_st] at hgo
      replace hgo := zi_2l_v hgo
      obtain ⟨x, y, T, hz, h⟩ := hgo
      subst hz
      replace h := zi_itn_v h
      obtain ⟨hy, h⟩ := h
      exact lv_lrem hx hb (hdn 0 rfl) hy (nxt h hH hS hL vL (zi_vc True.intro (zi_vt (zi_vt vS))))
    | lcmp =>
      simp only [zi_st] at hgo
      replace hgo := zi_2l_v hgo
      obtain ⟨x, y, T, hz, h⟩ := hgo
      subst hz
      exact W.lcmp hx hb (hdn 0 rfl) (nxt h hH hS hL vL (zi_vc True.intro (zi_vt (zi_vt vS))))
    | i2l =>
      simp only [zi_st] at hgo
      replace hgo := zi_1i_v hgo
      obtain ⟨x, T, hz, h⟩ := hgo
      subst hz
      exact lv_i2l hx hb (hdn 0 rfl) rfl (nxt h hH hS hL vL (zi_vc True.intro (zi_vt vS)))
    | l2i =>
      simp only [zi_st] at hgo
      replace hgo := zi_1l_v hgo
      obtain ⟨x, T, hz, h⟩ := hgo
      subst hz
      exact lv_l2i hx hb (hdn 0 rfl) rfl (nxt h hH hS hL vL (zi_vc True.intro (zi_vt vS)))
    | i2b =>
      simp only [zi_st] at hgo
      replace hgo := zi_1i_v hgo
      obtain ⟨x, T, hz, h⟩ := hgo
      subst hz
      exact lv_i2b hx hb (hdn 0 rfl) rfl (nxt h hH hS hL vL (zi_vc True.intro (zi_vt vS)))
    | dup =>
      simp only [zi_st] at hgo
      replace hgo := zi_du_v hgo
      obtain ⟨a, T, hz, ha, h⟩ := hgo
      subst hz
      exact lv_dup hx hb (hdn 0 rfl) (by rw [zi_cat]; exact ha) (nxt h hH hS hL vL (zi_vc (zi_vh vS) vS))
    | dup2 =>
      simp only [zi_st] at hgo
      replace hgo := zi_d2_v hgo
      obtain ⟨a, b, T, hz, ha, hb2, h⟩ := hgo
      subst hz
      exact lv_dup2_11 hx hb (hdn 0 rfl) (by rw [zi_cat]; exact ha) (by rw [zi_cat]; exact hb2) (nxt h hH hS hL vL (zi_vc (zi_vh vS) (zi_vc (zi_vh (zi_vt vS)) vS)))
    | pop =>
      simp only [zi_st] at hgo
      replace hgo := zi_po_v hgo
      obtain ⟨a, T, hz, ha, h⟩ := hgo
      subst hz
      exact lv_pop hx hb (hdn 0 rfl) (by rw [zi_cat]; exact ha) (nxt h hH hS hL vL (zi_vt vS))
    | aconst_null =>
      simp only [zi_st] at hgo
      exact lv_null hx hb (hdn 0 rfl) (nxt hgo hH hS hL vL (zi_vc True.intro vS))
    | goto off =>
      simp only [zi_st] at hgo
      replace hgo := zi_to_v hgo
      obtain ⟨t, ht, h⟩ := hgo
      exact lv_goto hx hb (hdn 2 rfl) ht (nxt h hH hS hL vL vS)
    | ifCond cd off =>
      simp only [zi_st] at hgo
      replace hgo := zi_1i_v hgo
      obtain ⟨x, T, hz, h⟩ := hgo
      subst hz
      replace h := zi_to_v h
      obtain ⟨t, ht, h⟩ := h
      cases cd with
      | eq => exact lv_if_eq hx hb (hdn 2 rfl) ht (fun hc => nxt ((if_pos hc).symm.trans h) hH hS hL vL (zi_vt vS)) (fun hc => nxt ((if_neg hc).symm.trans h) hH hS hL vL (zi_vt vS))
      | ne => exact lv_if_ne hx hb (hdn 2 rfl) ht (fun hc => nxt ((if_neg hc).symm.trans h) hH hS hL vL (zi_vt vS)) (fun hc => nxt ((if_pos hc).symm.trans h) hH hS hL vL (zi_vt vS))
      | lt => exact lv_if_lt hx hb (hdn 2 rfl) ht (fun hc => nxt ((if_pos hc).symm.trans h) hH hS hL vL (zi_vt vS)) (fun hc => nxt ((if_neg hc).symm.trans h) hH hS hL vL (zi_vt vS))
      | ge => exact lv_if_ge hx hb (hdn 2 rfl) ht (fun hc => nxt ((if_pos hc).symm.trans h) hH hS hL vL (zi_vt vS)) (fun hc => nxt ((if_neg hc).symm.trans h) hH hS hL vL (zi_vt vS))
      | gt => exact lv_if_gt hx hb (hdn 2 rfl) ht (fun hc => nxt ((if_pos hc).symm.trans h) hH hS hL vL (zi_vt vS)) (fun hc => nxt ((if_neg hc).symm.trans h) hH hS hL vL (zi_vt vS))
      | le => exact lv_if_le hx hb (hdn 2 rfl) ht (fun hc => nxt ((if_pos hc).symm.trans h) hH hS hL vL (zi_vt vS)) (fun hc => nxt ((if_neg hc).symm.trans h) hH hS hL vL (zi_vt vS))
    | if_icmp cd off =>
      simp only [zi_st] at hgo
      replace hgo := zi_2i_v hgo
      obtain ⟨x, y, T, hz, h⟩ := hgo
      subst hz
      replace h := zi_to_v h
      obtain ⟨t, ht, h⟩ := h
      cases cd with
      | eq => exact lv_icmp_eq hx hb (hdn 2 rfl) ht (fun hc => nxt ((if_pos hc).symm.trans h) hH hS hL vL (zi_vt (zi_vt vS))) (fun hc => nxt ((if_neg hc).symm.trans h) hH hS hL vL (zi_vt (zi_vt vS)))
      | ne => exact lv_icmp_ne hx hb (hdn 2 rfl) ht (fun hc => nxt ((if_neg hc).symm.trans h) hH hS hL vL (zi_vt (zi_vt vS))) (fun hc => nxt ((if_pos hc).symm.trans h) hH hS hL vL (zi_vt (zi_vt vS)))
      | lt => exact lv_icmp_lt hx hb (hdn 2 rfl) ht (fun hc => nxt ((if_pos hc).symm.trans h) hH hS hL vL (zi_vt (zi_vt vS))) (fun hc => nxt ((if_neg hc).symm.trans h) hH hS hL vL (zi_vt (zi_vt vS)))
      | ge => exact lv_icmp_ge hx hb (hdn 2 rfl) ht (fun hc => nxt ((if_pos hc).symm.trans h) hH hS hL vL (zi_vt (zi_vt vS))) (fun hc => nxt ((if_neg hc).symm.trans h) hH hS hL vL (zi_vt (zi_vt vS)))
      | gt => exact lv_icmp_gt hx hb (hdn 2 rfl) ht (fun hc => nxt ((if_pos hc).symm.trans h) hH hS hL vL (zi_vt (zi_vt vS))) (fun hc => nxt ((if_neg hc).symm.trans h) hH hS hL vL (zi_vt (zi_vt vS)))
      | le => exact lv_icmp_le hx hb (hdn 2 rfl) ht (fun hc => nxt ((if_pos hc).symm.trans h) hH hS hL vL (zi_vt (zi_vt vS))) (fun hc => nxt ((if_neg hc).symm.trans h) hH hS hL vL (zi_vt (zi_vt vS)))
    | ifnull off =>
      simp only [zi_st] at hgo
      replace hgo := zi_1r_v hgo
      obtain ⟨c0, o, T, hz, h⟩ := hgo
      subst hz
      replace h := zi_to_v h
      obtain ⟨t, ht, h⟩ := h
      cases o with
      | none => exact lv_ifnullN hx hb (hdn 2 rfl) ht (nxt h hH hS hL vL (zi_vt vS))
      | some k1 => exact lv_ifnull hx hb (hdn 2 rfl) (nxt h hH hS hL vL (zi_vt vS))
    | ifnonnull off =>
      simp only [zi_st] at hgo
      replace hgo := zi_1r_v hgo
      obtain ⟨c0, o, T, hz, h⟩ := hgo
      subst hz
      replace h := zi_to_v h
      obtain ⟨t, ht, h⟩ := h
      cases o with
      | none => exact lv_ifnonnullN hx hb (hdn 2 rfl) (nxt h hH hS hL vL (zi_vt vS))
      | some k1 => exact lv_ifnonnull hx hb (hdn 2 rfl) ht (nxt h hH hS hL vL (zi_vt vS))
    | tableswitch df lo hi2 offs =>
      simp only [zi_st] at hgo
      replace hgo := zi_1i_v hgo
      obtain ⟨x, T, hz, h⟩ := hgo
      subst hz
      unfold zi_sw at h
      split at h
      · next h1 =>
        replace h := zi_to_v h
        obtain ⟨t, ht, h⟩ := h
        exact lv_tableOut hx hb hd0 (Or.inl h1) ht (nsw h (zi_vt vS))
      · next h1 =>
        split at h
        · next h2 =>
          replace h := zi_to_v h
          obtain ⟨t, ht, h⟩ := h
          exact lv_tableOut hx hb hd0 (Or.inr h2) ht (nsw h (zi_vt vS))
        · next h2 =>
          split at h
          · next o ho =>
            replace h := zi_to_v h
            obtain ⟨t, ht, h⟩ := h
            exact lv_tableIn hx hb hd0 h1 h2 ho ht (nsw h (zi_vt vS))
          · cases h
    | getfield idx =>
      simp only [zi_st] at hgo
      replace hgo := zi_op_v hgo
      obtain ⟨q, hq, h⟩ := hgo
      replace h := zi_1r_v h
      obtain ⟨c0, o, T, hz, h⟩ := h
      subst hz
      replace h := zi_ite_v h
      obtain ⟨hz, h⟩ := h
      subst hz
      replace h := zi_sm_v h
      obtain ⟨k, hz, h⟩ := h
      subst hz
      obtain ⟨C, T0, N, hc, hk, hN0, hft, hT1, hl, hln, -, -, -, h4, -, h11⟩ := zi_flok hq
      exact zi_getf hx hb hown hg hK hH.1 hq (zi_vh vS) (hdn 2 rfl) (nxt h hH hS hL vL (zi_vc (zi_vrd hH.2.2.2 h11 (zi_vh vS) hft h4) (zi_vt vS)))
    | putfield idx =>
      simp only [zi_st] at hgo
      replace hgo := zi_op_v hgo
      obtain ⟨q, hq, h⟩ := hgo
      obtain ⟨C, T0, N, hc, hk, hN0, hft, hT1, hl, hln, hi0, hi1, hi3, h4, hmu, h11⟩ := id (zi_flok hq)
      dsimp only at hc hft hi0 hi1 hi3 h4 hmu h11
      have hun : ∀ (C' : String) (T' : u_T) (N' : Nat), vwCl[q.1]? = some (C', T', N') → T' = T0 := by
        intro C' T' N' h'
        rw [hc] at h'
        cases h'
        rfl
      split at h
      · next h0 =>
        replace h := zi_1i_v h
        obtain ⟨x, S1, hz, h⟩ := h
        subst hz
        replace h := zi_1r_v h
        obtain ⟨c0, o, T, hz, h⟩ := h
        subst hz
        replace h := zi_ite_v h
        obtain ⟨hz, h⟩ := h
        subst hz
        replace h := zi_sm_v h
        obtain ⟨k, hz, h⟩ := h
        subst hz
        refine zi_putV hx hb hown hg hK hN hH hS hq (k := k) (zi_vh (zi_vt vS)) (M' := zi_sI M q.1 k q.2.1 x) (v := .int x) (ty := .int) (fun C' T' N' h' _ => by rw [hun C' T' N' h']; exact hi0 h0) rfl rfl (zi_fswI hft (Or.inl h0)) (fun _ _ hh => zi_sIo hh) (fun _ _ _ _ => rfl) (fun _ _ _ _ => rfl) hH.2.2.2 (hdn 2 rfl) (fun H1 locs1 g1 g2 => nxt h g1 g2 hL vL (zi_vt (zi_vt vS)))
      · next h0 =>
        split at h
        · next h1 =>
          replace h := zi_1l_v h
          obtain ⟨x, S1, hz, h⟩ := h
          subst hz
          replace h := zi_1r_v h
          obtain ⟨c0, o, T, hz, h⟩ := h
          subst hz
          replace h := zi_ite_v h
          obtain ⟨hz, h⟩ := h
          subst hz
          replace h := zi_sm_v h
          obtain ⟨k, hz, h⟩ := h
          subst hz
          refine zi_putV hx hb hown hg hK hN hH hS hq (k := k) (zi_vh (zi_vt vS)) (M' := zi_sL M q.1 k q.2.1 x) (v := .long x) (ty := .long) (fun C' T' N' h' _ => by rw [hun C' T' N' h']; exact hi1 h1) rfl rfl (zi_fswL (by rw [← h1]; exact hft)) (fun _ _ _ _ => rfl) (fun _ _ hh => zi_sLo hh) (fun _ _ _ _ => rfl) hH.2.2.2 (hdn 2 rfl) (fun H1 locs1 g1 g2 => nxt h g1 g2 hL vL (zi_vt (zi_vt vS)))
        · next h1 =>
          split at h
          · next h3 =>
            replace h := zi_1i_v h
            obtain ⟨x, S1, hz, h⟩ := h
            subst hz
            replace h := zi_bo_v h
            obtain ⟨hx01, h⟩ := h
            replace h := zi_1r_v h
            obtain ⟨c0, o, T, hz, h⟩ := h
            subst hz
            replace h := zi_ite_v h
            obtain ⟨hz, h⟩ := h
            subst hz
            replace h := zi_sm_v h
            obtain ⟨k, hz, h⟩ := h
            subst hz
            refine zi_putV hx hb hown hg hK hN hH hS hq (k := k) (zi_vh (zi_vt vS)) (M' := zi_sI M q.1 k q.2.1 x) (v := .int x) (ty := .boolean) (fun C' T' N' h' _ => by rw [hun C' T' N' h']; exact hi3 h3) (by rcases hx01 with rfl | rfl <;> decide) (by rcases hx01 with rfl | rfl <;> decide) (zi_fswI hft (Or.inr h3)) (fun _ _ hh => zi_sIo hh) (fun _ _ _ _ => rfl) (fun _ _ _ _ => rfl) hH.2.2.2 (hdn 2 rfl) (fun H1 locs1 g1 g2 => nxt h g1 g2 hL vL (zi_vt (zi_vt vS)))
          · next h3 =>
            have h2 : q.2.2.1 = 2 := by
              rcases h4 with g | g | g | g
              · exact absurd g h0
              · exact absurd g h1
              · exact g
              · exact absurd g h3
            replace h := zi_bl_v h
            rcases h with ⟨hm, h⟩ | ⟨-, h⟩
            · replace h := zi_1r_v h
              obtain ⟨c1, o1, S1, hz, h⟩ := h
              subst hz
              replace h := zi_1r_v h
              obtain ⟨c0, o, T, hz, h⟩ := h
              subst hz
              replace h := zi_ite_v h
              obtain ⟨hz, h⟩ := h
              subst hz
              replace h := zi_sm_v h
              obtain ⟨k, hz, h⟩ := h
              subst hz
              obtain ⟨⟨Rn, hR⟩, hfin⟩ := hmu hm
              replace h := zi_nn_v h
              rcases h with ⟨hz, h⟩ | ⟨k1, hz, h⟩
              · subst hz
                refine zi_putV hx hb hown hg hK hN hH hS hq (k := k) (zi_vh (zi_vt vS)) (M' := zi_sR M q.1 k q.2.1 none) (v := .null) (ty := .object Rn) (fun C' T' N' h' _ => by rw [hun C' T' N' h']; exact ⟨hR, hfin⟩) rfl rfl (zi_fswR (x := none) (by rw [← h2]; exact hft) hm) (fun _ _ _ _ => rfl) (fun _ _ _ _ => rfl) (fun _ _ hh => zi_sRo hh) ?_ (hdn 2 rfl) (fun H1 locs1 g1 g2 => nxt h g1 g2 hL vL (zi_vt (zi_vt vS)))
                intro c' k' s' o' hm' ho'
                by_cases hh : c' = q.1 ∧ k' = k
                · obtain ⟨rfl, rfl⟩ := hh
                  by_cases hss : s' = q.2.1
                  · subst hss; rw [zi_sRs] at ho'; cases ho'
                  · rw [zi_sRn hss] at ho'; exact hH.2.2.2 _ _ _ _ hm' ho'
                · rw [zi_sRo hh] at ho'; exact hH.2.2.2 _ _ _ _ hm' ho'
              · subst hz
                replace h := zi_ite_v h
                obtain ⟨hz, h⟩ := h
                subst hz
                refine zi_putV hx hb hown hg hK hN hH hS hq (k := k) (zi_vh (zi_vt vS)) (M' := zi_sR M q.1 k q.2.1 (some k1)) (v := .ref (ad (zi_fk q.1 q.2.1) k1)) (ty := .object Rn) (fun C' T' N' h' _ => by rw [hun C' T' N' h']; exact ⟨hR, hfin⟩) rfl rfl (zi_fswR (x := some k1) (by rw [← h2]; exact hft) hm) (fun _ _ _ _ => rfl) (fun _ _ _ _ => rfl) (fun _ _ hh => zi_sRo hh) ?_ (hdn 2 rfl) (fun H1 locs1 g1 g2 => nxt h g1 g2 hL vL (zi_vt (zi_vt vS)))
                intro c' k' s' o' hm' ho'
                by_cases hh : c' = q.1 ∧ k' = k
                · obtain ⟨rfl, rfl⟩ := hh
                  by_cases hss : s' = q.2.1
                  · subst hss; rw [zi_sRs] at ho'; cases ho'; exact zi_vh vS
                  · rw [zi_sRn hss] at ho'; exact hH.2.2.2 _ _ _ _ hm' ho'
                · rw [zi_sRo hh] at ho'; exact hH.2.2.2 _ _ _ _ hm' ho'
            · cases h
    | getstatic idx =>
      simp only [zi_st] at hgo
      replace hgo := zi_op_v hgo
      obtain ⟨q, hq, h⟩ := hgo
      rcases zi_slok hq with ⟨e1, hw⟩ | ⟨e1, hw⟩
      · rw [e1] at h
        exact va_getsN hx hb hZ.1 hS hown (va_Nw.use rfl (hK.2 _ hw rfl)) (fun _ hh => hh) (hdn 2 rfl) (nxt h hH hS hL vL (zi_vc (by show zi_ex 91 0 = true; decide) vS))
      · rw [e1] at h
        exact va_getsN hx hb hZ.2 hS hown (va_Nw.use rfl (hK.2 _ hw rfl)) (fun _ hh => hh) (hdn 2 rfl) (nxt h hH hS hL vL (zi_vc (by show zi_ex 92 0 = true; decide) vS))
    | arraylength =>
      simp only [zi_st] at hgo
      replace hgo := zi_1r_v hgo
      obtain ⟨c0, o, T, hz, h⟩ := hgo
      subst hz
      replace h := zi_itn_v h
      obtain ⟨h11, h⟩ := h
      replace h := zi_sm_v h
      obtain ⟨k, hz, h⟩ := h
      subst hz
      exact zi_alen hx hb hK hH (zi_vh vS) (by omega) (hdn 0 rfl) (nxt h hH hS hL vL (zi_vc True.intro (zi_vt vS)))
    | iaload =>
      simp only [zi_st] at hgo
      replace hgo := zi_1i_v hgo
      obtain ⟨x, S1, hz, h⟩ := hgo
      subst hz
      replace h := zi_1r_v h
      obtain ⟨c0, o, T, hz, h⟩ := h
      subst hz
      replace h := zi_ite_v h
      obtain ⟨ht, h⟩ := h
      replace h := zi_sm_v h
      obtain ⟨k, hz, h⟩ := h
      subst hz
      replace h := zi_ix_v h
      obtain ⟨h1, h2, h⟩ := h
      exact zi_iald hx hb hK hH (zi_vh (zi_vt vS)) ht h1 h2 (hdn 0 rfl) (nxt h hH hS hL vL (zi_vc True.intro (zi_vt (zi_vt vS))))
    | baload =>
      simp only [zi_st] at hgo
      replace hgo := zi_1i_v hgo
      obtain ⟨x, S1, hz, h⟩ := hgo
      subst hz
      replace h := zi_1r_v h
      obtain ⟨c0, o, T, hz, h⟩ := h
      subst hz
      replace h := zi_ite_v h
      obtain ⟨ht, h⟩ := h
      replace h := zi_sm_v h
      obtain ⟨k, hz, h⟩ := h
      subst hz
      replace h := zi_ix_v h
      obtain ⟨h1, h2, h⟩ := h
      have hex : zi_ex c0 k = true := zi_vh (zi_vt vS)
      have h44 := zi_ty90 c0 (zi_k93 hex) (Or.inr (Or.inr ht))
      exact zi_zald hx hb hK hH hex (by omega) ht h1 h2 (hdn 0 rfl) (nxt h hH hS hL vL (zi_vc True.intro (zi_vt (zi_vt vS))))
    | laload =>
      simp only [zi_st] at hgo
      replace hgo := zi_1i_v hgo
      obtain ⟨x, S1, hz, h⟩ := hgo
      subst hz
      replace h := zi_1r_v h
      obtain ⟨c0, o, T, hz, h⟩ := h
      subst hz
      replace h := zi_ite_v h
      obtain ⟨ht, h⟩ := h
      replace h := zi_sm_v h
      obtain ⟨k, hz, h⟩ := h
      subst hz
      replace h := zi_ix_v h
      obtain ⟨h1, h2, h⟩ := h
      have hex : zi_ex c0 k = true := zi_vh (zi_vt vS)
      have h44 := zi_ty90 c0 (zi_k93 hex) (Or.inl ht)
      exact zi_lald hx hb hK hH hex (by omega) ht h1 h2 (hdn 0 rfl) (nxt h hH hS hL vL (zi_vc True.intro (zi_vt (zi_vt vS))))
    | aaload =>
      simp only [zi_st] at hgo
      replace hgo := zi_1i_v hgo
      obtain ⟨x, S1, hz, h⟩ := hgo
      subst hz
      replace h := zi_1r_v h
      obtain ⟨c0, o, T, hz, h⟩ := h
      subst hz
      replace h := zi_ite_v h
      obtain ⟨ht, h⟩ := h
      replace h := zi_sm_v h
      obtain ⟨k, hz, h⟩ := h
      subst hz
      replace h := zi_ix_v h
      obtain ⟨h1, h2, h⟩ := h
      have hex : zi_ex c0 k = true := zi_vh (zi_vt vS)
      have h44 := zi_ty90 c0 (zi_k93 hex) (Or.inr (Or.inl ht))
      have h300 := (zi_exb (by omega) hex).2
      exact zi_aald hx hb hK hH hex (by omega) ht h1 h2 (hdn 0 rfl) (nxt h hH hS hL vL (zi_vc (zi_t2 c0 h44 ht k h300 hex _ (by rw [zi_lenn (by omega)] at h2; omega)) (zi_vt (zi_vt vS))))
    | iastore =>
      simp only [zi_st] at hgo
      replace hgo := zi_1i_v hgo
      obtain ⟨y, S0, hz, h⟩ := hgo
      subst hz
      replace h := zi_1i_v h
      obtain ⟨x, S1, hz, h⟩ := h
      subst hz
      replace h := zi_1r_v h
      obtain ⟨c0, o, T, hz, h⟩ := h
      subst hz
      replace h := zi_ite_v h
      obtain ⟨ht, h⟩ := h
      replace h := zi_ite_v h
      obtain ⟨h90, h⟩ := h
      replace h := zi_sm_v h
      obtain ⟨k, hz, h⟩ := h
      subst hz
      replace h := zi_ix_v h
      obtain ⟨h1, h2, h⟩ := h
      exact zi_iast hx hb hK hN hH hS (zi_vh (zi_vt (zi_vt vS))) h90 ht h1 h2 (hdn 0 rfl) (fun H1 locs1 g1 g2 => nxt h g1 g2 hL vL (zi_vt (zi_vt (zi_vt vS))))
    | bastore =>
      simp only [zi_st] at hgo
      replace hgo := zi_1i_v hgo
      obtain ⟨y, S0, hz, h⟩ := hgo
      subst hz
      replace h := zi_bo_v h
      obtain ⟨hy01, h⟩ := h
      replace h := zi_1i_v h
      obtain ⟨x, S1, hz, h⟩ := h
      subst hz
      replace h := zi_1r_v h
      obtain ⟨c0, o, T, hz, h⟩ := h
      subst hz
      replace h := zi_ite_v h
      obtain ⟨ht, h⟩ := h
      replace h := zi_sm_v h
      obtain ⟨k, hz, h⟩ := h
      subst hz
      replace h := zi_ix_v h
      obtain ⟨h1, h2, h⟩ := h
      have hex : zi_ex c0 k = true := zi_vh (zi_vt (zi_vt vS))
      have h44 := zi_ty90 c0 (zi_k93 hex) (Or.inr (Or.inr ht))
      exact zi_zast hx hb hK hN hH hS hex (by omega) ht hy01 h1 h2 (hdn 0 rfl) (fun H1 locs1 g1 g2 => nxt h g1 g2 hL vL (zi_vt (zi_vt (zi_vt vS))))
    | lastore =>
      simp only [zi_st] at hgo
      replace hgo := zi_1l_v hgo
      obtain ⟨y, S0, hz, h⟩ := hgo
      subst hz
      replace h := zi_1i_v h
      obtain ⟨x, S1, hz, h⟩ := h
      subst hz
      replace h := zi_1r_v h
      obtain ⟨c0, o, T, hz, h⟩ := h
      subst hz
      replace h := zi_ite_v h
      obtain ⟨ht, h⟩ := h
      replace h := zi_sm_v h
      obtain ⟨k, hz, h⟩ := h
      subst hz
      replace h := zi_ix_v h
      obtain ⟨h1, h2, h⟩ := h
      have hex : zi_ex c0 k = true := zi_vh (zi_vt (zi_vt vS))
      have h44 := zi_ty90 c0 (zi_k93 hex) (Or.inl ht)
      exact zi_last hx hb hK hN hH hS hex (by omega) ht h1 h2 (hdn 0 rfl) (fun H1 locs1 g1 g2 => nxt h g1 g2 hL vL (zi_vt (zi_vt (zi_vt vS))))
    | invokevirtual idx =>
      simp only [zi_st] at hgo
      replace hgo := zi_op_v hgo
      obtain ⟨q, hq, h⟩ := hgo
      replace h := zi_bl_v h
      rcases h with ⟨-, h⟩ | ⟨hsc, h⟩
      · cases h
      · replace h := zi_pp_v _ _ _ h
        obtain ⟨as, S1, hlen, hz, h⟩ := h
        subst hz
        rw [List.append_nil] at h
        replace h := zi_1r_v h
        obtain ⟨c0, o, T, hz, h⟩ := h
        subst hz
        replace h := zi_ite_v h
        obtain ⟨hz, h⟩ := h
        subst hz
        replace h := zi_sm_v h
        obtain ⟨k, hz, h⟩ := h
        subst hz
        replace h := zi_rs_v h
        obtain ⟨hrs, h⟩ := h
        replace h := zi_ca_v h
        obtain ⟨v1, M1, ho, h⟩ := h
        replace ho := zi_bl_v ho
        rcases ho with ⟨hfit, ho⟩ | ⟨-, ho⟩
        · replace ho := zi_dn_v ho
          obtain ⟨d', hz, ho⟩ := ho
          subst hz
          have hva : ∀ x ∈ as, zi_vl x := fun x hx' => vS x (List.mem_append_left _ (List.mem_reverse.mpr hx'))
          have hvr : ∀ x ∈ (.inr (.inr (zi_w q.1, some k)) :: T : zi_S), zi_vl x := fun x hx' => vS x (List.mem_append_right _ hx')
          have := zi_callV (e := e) (below := below) (meth := meth) (Q := Q) hs hC hq hsc hH hS hlen (zi_vh hvr) (Nat.le_of_ble_eq_true hfit) ho hva hrs hL.1 (hdn 2 rfl) (fun H1 locs1 g1 g2 gv => by
            have h9 := nxt (ls' := ls) h g1 g2 hL vL (by
              intro u hu
              rcases List.mem_append.mp hu with h7 | h7
              · exact gv u (by simpa using h7)
              · exact zi_vt hvr u h7)
            rw [List.map_append] at h9
            rw [show (v1.map (zi_cv ad)).toList = v1.toList.map (zi_cv ad) by cases v1 <;> rfl]
            exact h9)
          rw [List.map_append, List.map_reverse]
          exact this
        · cases ho
    | invokestatic idx =>
      simp only [zi_st] at hgo
      replace hgo := zi_bl_v hgo
      rcases hgo with ⟨hac, h⟩ | ⟨-, h⟩
      · unfold zi_ac at h
        split at h
        · replace h := zi_ite_v h
          obtain ⟨hz, h⟩ := h
          subst hz
          replace h := zi_ite_v h
          obtain ⟨hz, h⟩ := h
          subst hz
          replace h := zi_itn_v h
          obtain ⟨h1, h⟩ := h
          replace h := zi_itn_v h
          obtain ⟨h2, h⟩ := h
          replace h := zi_itn_v h
          obtain ⟨h3, h⟩ := h
          replace h := zi_ite_v h
          obtain ⟨h4, h⟩ := h
          replace h := zi_ite_v h
          obtain ⟨h5, h⟩ := h
          replace h := zi_rs_v h
          obtain ⟨hrs, h⟩ := h
          have v1 := zi_vt (zi_vt vS)
          have v2 := zi_vt (zi_vt v1)
          exact zi_acop hx hb (hml.trans hL.1.symm) hac hown hg hK hN hH hS (zi_vh v2) (zi_vh v1) h1 h2 h3 h4 h5 (by omega) (by rw [zi_cats, zi_nfw]; omega) (hdn 2 rfl) (fun H1 locs1 g1 g2 => nxt h g1 g2 hL vL (zi_vt v2))
        · cases h
      · replace h := zi_nn_v h
        rcases h with ⟨-, h⟩ | ⟨t, hmx, h⟩
        · replace h := zi_op_v h
          obtain ⟨q, hq, h⟩ := h
          replace h := zi_bl_v h
          rcases h with ⟨hsc, h⟩ | ⟨-, h⟩
          · replace h := zi_pp_v _ _ _ h
            obtain ⟨as, T, hlen, hz, h⟩ := h
            subst hz
            rw [List.append_nil] at h
            replace h := zi_rs_v h
            obtain ⟨hrs, h⟩ := h
            replace h := zi_ca_v h
            obtain ⟨v1, M1, ho, h⟩ := h
            replace ho := zi_bl_v ho
            rcases ho with ⟨hfit, ho⟩ | ⟨-, ho⟩
            · replace ho := zi_dn_v ho
              obtain ⟨d', hz, ho⟩ := ho
              subst hz
              have hva : ∀ x ∈ as, zi_vl x := fun x hx' => vS x (List.mem_append_left _ (List.mem_reverse.mpr hx'))
              have hvr : ∀ x ∈ T, zi_vl x := fun x hx' => vS x (List.mem_append_right _ hx')
              have := zi_callS (e := e) (below := below) (meth := meth) (Q := Q) hs hC hq hsc hH hS hlen (Nat.le_of_ble_eq_true hfit) ho hva hrs hL.1 (hdn 2 rfl) (fun H1 locs1 g1 g2 gv => by
                have h9 := nxt (ls' := ls) h g1 g2 hL vL (by
                  intro u hu
                  rcases List.mem_append.mp hu with h7 | h7
                  · exact gv u (by simpa using h7)
                  · exact hvr u h7)
                rw [List.map_append] at h9
                rw [show (v1.map (zi_cv ad)).toList = v1.toList.map (zi_cv ad) by cases v1 <;> rfl]
                exact h9)
              rw [List.map_append, List.map_reverse]
              exact this
            · cases ho
          · cases h
        · obtain ⟨m0, m1, m2⟩ := zi_mxok hmx
          unfold zi_ma at h
          split at h
          · next ht =>
            replace h := zi_1i_v h
            obtain ⟨x, T, hz, h⟩ := h
            subst hz
            replace h := zi_rs_v h
            obtain ⟨hrs, h⟩ := h
            exact va_mabs hx hb (hml.trans hL.1.symm) hown (hg _ (m0 ht)) (hg _ zx_sabs) (hg _ zx_ini) (hg _ zx_cabs) (by omega) (by rw [zi_cats]; omega) hR3 hR4 (hdn 2 rfl) (nxt h hH hS hL vL (zi_vc True.intro (zi_vt vS)))
          · split at h
            · next ht =>
              replace h := zi_2i_v h
              obtain ⟨x, y, T, hz, h⟩ := h
              subst hz
              replace h := zi_rs_v h
              obtain ⟨hrs, h⟩ := h
              exact va_mmax hx hb (hml.trans hL.1.symm) hown (hg _ (m1 ht)) (hg _ zx_smax) (hg _ zx_ini) (hg _ zx_cmax) (by omega) (by rw [zi_cats]; omega) hR3 hR4 (hdn 2 rfl) (nxt h hH hS hL vL (zi_vc True.intro (zi_vt (zi_vt vS))))
            · split at h
              · next ht =>
                replace h := zi_2i_v h
                obtain ⟨x, y, T, hz, h⟩ := h
                subst hz
                replace h := zi_rs_v h
                obtain ⟨hrs, h⟩ := h
                exact va_mmin hx hb (hml.trans hL.1.symm) hown (hg _ (m2 ht)) (hg _ zx_smin) (hg _ zx_ini) (hg _ zx_cmin) (by omega) (by rw [zi_cats]; omega) hR3 hR4 (hdn 2 rfl) (nxt h hH hS hL vL (zi_vc True.intro (zi_vt (zi_vt vS))))
              · cases h
    | ireturn =>
      simp only [zi_st] at hgo
      unfold zi_ri at hgo
      split at hgo
      · next x =>
        split at hgo
        · next h4 =>
          replace hgo := zi_bo_v hgo
          obtain ⟨h01, h⟩ := hgo
          cases h
          exact hend H locs pc ls hH hS ⟨Or.inr ⟨h4, h01⟩, hdn 0 rfl⟩ (fun u hu => by cases hu; exact True.intro)
        · split at hgo
          · next h1 =>
            cases hgo
            exact hend H locs pc ls hH hS ⟨Or.inl h1, hdn 0 rfl⟩ (fun u hu => by cases hu; exact True.intro)
          · cases hgo
      · cases hgo
    | lreturn =>
      simp only [zi_st] at hgo
      unfold zi_rl at hgo
      split at hgo
      · next x =>
        replace hgo := zi_ite_v hgo
        obtain ⟨h2, h⟩ := hgo
        cases h
        exact hend H locs pc ls hH hS ⟨h2, hdn 0 rfl⟩ (fun u hu => by cases hu; exact True.intro)
      · cases hgo
    | areturn =>
      simp only [zi_st] at hgo
      unfold zi_ra at hgo
      split at hgo
      · next c0 o =>
        replace hgo := zi_ite_v hgo
        obtain ⟨h3, h⟩ := hgo
        replace h := zi_nn_v h
        rcases h with ⟨hz, h⟩ | ⟨k, hz, h⟩
        · subst hz
          cases h
          exact hend H locs pc ls hH hS ⟨h3, hdn 0 rfl⟩ (fun u hu => by cases hu; exact True.intro)
        · subst hz
          replace h := zi_ite_v h
          obtain ⟨-, h⟩ := h
          cases h
          exact hend H locs pc ls hH hS ⟨h3, hdn 0 rfl⟩ (fun u hu => by cases hu; exact zi_vh vS)
      · cases hgo
    | return_ =>
      simp only [zi_st] at hgo
      unfold zi_rv at hgo
      split at hgo
      · replace hgo := zi_ite_v hgo
        obtain ⟨h0, h⟩ := hgo
        cases h
        exact hend H locs pc ls hH hS ⟨h0, hdn 0 rfl⟩ (fun u hu => by cases hu)
      · cases hgo
    | _ => simp only [zi_st] at hgo; cases hgo
theorem zi_sim (l : Launch) (D : va_G) (ca : Nat → ClassId) (ad : Nat → Nat → Nat) (A : Nat → Prop) : ∀ n, zi_Sim l D ca ad A n
  | 0 => by
    intro d r pc L S M v M' h
    cases h
  | n + 1 => zi_sim1 (zi_sim l D ca ad A n)
