/-! THE SIMULATION: what the interpreter answers, the machine answers -/
theorem zi_dec {r : zi_R} {pc : Nat} {i : Instr} (hd : ∀ q ∈ zi_cd r, zi_dk (zi_by r) q = true) (h : zi_at (zi_cd r) pc = some i) : ∃ n, decode (zi_by r) pc = .ok (i, n) ∧ (zi_n i = 0 ∨ n = zi_n i) := by
  have h1 := hd _ (zi_at_mem _ _ h)
  unfold zi_dk at h1
  split at h1
  · next i' n e =>
    rw [Bool.and_eq_true, decide_eq_true_eq, Bool.or_eq_true, Nat.beq_eq, Nat.beq_eq] at h1
    dsimp only at h1 e
    obtain ⟨rfl, h2⟩ := h1
    exact ⟨n, e, h2⟩
  · cases h1
section ZS
variable {l : Launch} {D : va_G} {ca : Nat → ClassId} {ad : Nat → Nat → Nat} {A : Nat → Prop}
variable {p : Program} {e : Env} {R : Room} {s : State} {m : MethodId} {args : Array Value} {below : List Frame} {meth : Method} {c : Code} {H : Heap} {locs : List Loc} {cells slots : Nat} {Q : State → Prop}
/-- a call of an instance method -/
theorem zi_callV {n : Nat} (hs : zi_Sim l D ca ad A n) {d : Nat} {r : zi_R} (hC : zi_Cx p R s m args c D ca ad A r (d + 1) cells slots) {idx : Nat} {q : zi_R × Bool × Nat × Nat} (hq : zi_lk (zi_w r) idx = some q) (hsc : zi_sc q.1 = false) {M M1 : zi_M} (hH : zi_H D ca ad A M s H) (hS : va_S A s.heap H locs) {k : Nat} {as : List zi_V} {v : Option zi_V} (hlen : as.length = zi_na q.1) (hex : zi_ex (zi_w q.1) k = true)
    (hfit : (zi_e0 (.inr (.inr (zi_w q.1, some k)) :: as)).length ≤ zi_ml q.1) (hgo : zi_go n d q.1 0 (zi_en (zi_ml q.1) (.inr (.inr (zi_w q.1, some k)) :: as)) [] M = some (v, M1)) (hva : ∀ x ∈ as, zi_vl x) {S : zi_S} (hrs : (S.map zi_ct).sum ≤ 8) {pc : Nat} {ls : Array Slot} (hls : ls.size = zi_ml r) (hdg : decode (zi_by r) pc = .ok (.invokevirtual idx, 3))
    (kk : ∀ (H1 : Heap) (locs1 : List Loc), zi_H D ca ad A M1 s H1 → va_S A s.heap H1 locs1 → (∀ x, v = some x → zi_vl x) → W p l e R s m args below meth c H1 locs1 cells slots Q (F0 m (pc + 3) ls ((v.map (zi_cv ad)).toList ++ S.map (zi_cv ad)))) :
    W p l e R s m args below meth c H locs cells slots Q (F0 m pc ls ((as.map (zi_cv ad)).reverse ++ .ref (ad (zi_w q.1) k) :: S.map (zi_cv ad))) := by
  obtain ⟨hx, hb, hml, hown, hg, hdk, hK, hZ, hN, hR1, hR2, hR3, hR4⟩ := hC
  obtain ⟨hok, hl, hln⟩ := zi_lkok hq
  dsimp only at hok hl hln
  obtain ⟨⟨hpl, hcode, hini, hmh, hpd, -, hin, -, hcn, hml30⟩, -⟩ := id hok
  obtain ⟨hins, hsel, hcls⟩ := hin hsc
  have hM := zi_met hs hok hgo hfit (zi_vc hex hva)
  have hw11 : zi_w q.1 < 11 := by
    cases h : vwCl[zi_w q.1]? with
    | none => rw [h] at hcls; cases hcls
    | some x => exact (List.getElem?_eq_some_iff.mp h).1
  obtain ⟨C0, hC0⟩ : ∃ x, vwCl[zi_w q.1]? = some x ∧ x.1 = (zi_y q.1).cls := by
    cases h : vwCl[zi_w q.1]? with
    | none => rw [h] at hcls; cases hcls
    | some x => rw [h] at hcls; exact ⟨x, rfl, Option.some.inj hcls⟩
  obtain ⟨i, hi⟩ := zi_in (by omega) hex
  have he := zi_wg (ca := ca) (ad := ad) (M := M) hi
  rw [zi_entO hw11] at he
  have hrecv := va_recv hK.1 hH.1 hC0.1 he
  rw [hC0.2] at hrecv
  have hpre : ∀ U : State, U.heap = H → s.WarmedH U.vm → va_Pc ((.inr (.inr (zi_w q.1, some k)) :: as : List zi_V).map (zi_cv ad)) (zi_P D ca ad A M) (Value.ref (ad (zi_w q.1) k) :: as.map (zi_cv ad)).toArray U := fun U hU hW => ⟨rfl, zi_P_mk hW hU hH hS hK hZ hN⟩
  have hRR : (zi_rm d).frames + 1 ≤ R.frames ∧ 8 + (zi_ml q.1 + 11) + (zi_rm d).locals ≤ R.locals := by
    refine ⟨?_, ?_⟩
    · show d + 1 + 1 ≤ _
      exact hR1
    · show 8 + (zi_ml q.1 + 11) + 60 * (d + 1) ≤ _
      omega
  have hrsv : 2 * (F0 m pc ls ((as.map (zi_cv ad)).reverse ++ .ref (ad (zi_w q.1) k) :: S.map (zi_cv ad))).monitorRoom + ((S.map (zi_cv ad)).map fun v => v.category).sum ≤ 8 := lv_room (by rw [zi_cats]; exact hrs)
  cases hne : q.2.1 with
  | false =>
    have hT : GoodIn zi_gw (wsV (zi_cn (zi_w r)) idx (zi_y q.1).cls (zi_y q.1) (zi_ws q.1)) := by
      intro w hw
      have hw2 : w ∈ zi_gw := by
        unfold wsV at hw
        rcases List.mem_append.mp hw with h | h
        · simp only [List.mem_cons, List.not_mem_nil, or_false] at h
          rcases h with rfl | rfl | rfl | rfl
          · exact hl hne
          · exact hins
          · exact hsel
          · exact hini
        · exact (zi_good hcode w h).1
      exact ⟨hw2, zi_gwg hw2⟩
    exact zi_callk (va_runV (As := as.map (zi_cv ad)) (rest := S.map (zi_cv ad)) ⟨hx, hb, hml, hown, hg⟩ hM (cwV (zi_na q.1) hg hT rfl rfl rfl ⟨rfl, hmh.1, hmh.2, hpd⟩ hRR) ⟨zi_fb, hrecv, hpre⟩ rfl (by rw [List.length_map]; exact hlen) hls rfl hrsv hdg ⟨hR3, hR4⟩) hS kk
  | true =>
    exact zi_callk (va_runVN (As := as.map (zi_cv ad)) (rest := S.map (zi_cv ad)) (C := (zi_y q.1).cls) ⟨hx, hb, hml, hown, hg⟩ hM ⟨va_cnB (zi_na q.1) hg (zi_good hcode) rfl rfl rfl (hK.2 _ (hln hne) rfl) (hg _ hini) ⟨hmh.1, hmh.2, hpd⟩ hRR, hg _ hins, hg _ hsel⟩ ⟨zi_fb, hrecv, hpre⟩ rfl (by rw [List.length_map]; exact hlen) hls rfl hrsv hdg ⟨hR3, hR4⟩) hS kk
theorem zi_callS {n : Nat} (hs : zi_Sim l D ca ad A n) {d : Nat} {r : zi_R} (hC : zi_Cx p R s m args c D ca ad A r (d + 1) cells slots) {idx : Nat} {q : zi_R × Bool × Nat × Nat} (hq : zi_lk (zi_w r) idx = some q) (hsc : zi_sc q.1 = true) {M M1 : zi_M} (hH : zi_H D ca ad A M s H) (hS : va_S A s.heap H locs) {as : List zi_V} {v : Option zi_V} (hlen : as.length = zi_na q.1)
    (hfit : (zi_e0 as).length ≤ zi_ml q.1) (hgo : zi_go n d q.1 0 (zi_en (zi_ml q.1) as) [] M = some (v, M1)) (hva : ∀ x ∈ as, zi_vl x) {S : zi_S} (hrs : (S.map zi_ct).sum ≤ 8) {pc : Nat} {ls : Array Slot} (hls : ls.size = zi_ml r) (hdg : decode (zi_by r) pc = .ok (.invokestatic idx, 3))
    (kk : ∀ (H1 : Heap) (locs1 : List Loc), zi_H D ca ad A M1 s H1 → va_S A s.heap H1 locs1 → (∀ x, v = some x → zi_vl x) → W p l e R s m args below meth c H1 locs1 cells slots Q (F0 m (pc + 3) ls ((v.map (zi_cv ad)).toList ++ S.map (zi_cv ad)))) :
    W p l e R s m args below meth c H locs cells slots Q (F0 m pc ls ((as.map (zi_cv ad)).reverse ++ S.map (zi_cv ad))) := by
  obtain ⟨hx, hb, hml, hown, hg, hdk, hK, hZ, hN, hR1, hR2, hR3, hR4⟩ := hC
  obtain ⟨hok, hl, hln⟩ := zi_lkok hq
  dsimp only at hok hl hln
  obtain ⟨⟨hpl, hcode, hini, hmh, hpd, hst, -, -, hcn, hml30⟩, -⟩ := id hok
  have hM := zi_met hs hok hgo hfit hva
  have hpre : ∀ U : State, U.heap = H → s.WarmedH U.vm → va_Pc (as.map (zi_cv ad)) (zi_P D ca ad A M) (as.map (zi_cv ad)).toArray U := fun U hU hW => ⟨rfl, zi_P_mk hW hU hH hS hK hZ hN⟩
  have hRR : (zi_rm d).frames + 1 ≤ R.frames ∧ 8 + (zi_ml q.1 + 11) + (zi_rm d).locals ≤ R.locals := by
    refine ⟨?_, ?_⟩
    · show d + 1 + 1 ≤ _
      exact hR1
    · show 8 + (zi_ml q.1 + 11) + 60 * (d + 1) ≤ _
      omega
  have hrsv : 2 * (F0 m pc ls ((as.map (zi_cv ad)).reverse ++ S.map (zi_cv ad))).monitorRoom + ((S.map (zi_cv ad)).map fun v => v.category).sum ≤ 8 := lv_room (by rw [zi_cats]; exact hrs)
  cases hne : q.2.1 with
  | false =>
    exact zi_callk (va_runS (As := as.map (zi_cv ad)) (rest := S.map (zi_cv ad)) ⟨hx, hb, hml, hown, hg⟩ hM ⟨callB_of (zi_na q.1) hg (zi_good hcode) rfl rfl rfl (hg _ hini) (hg _ (hl hne)) ⟨hmh.1, hmh.2, hpd⟩ hRR, hg _ (hst hsc)⟩ ⟨zi_fb, hpre⟩ rfl (by rw [List.length_map]; exact hlen) hls rfl hrsv hdg ⟨hR3, hR4⟩) hS kk
  | true =>
    exact zi_callk (va_runSN (As := as.map (zi_cv ad)) (rest := S.map (zi_cv ad)) ⟨hx, hb, hml, hown, hg⟩ hM ⟨va_cnB (zi_na q.1) hg (zi_good hcode) rfl rfl rfl (hK.2 _ (hln hne) rfl) (hg _ hini) ⟨hmh.1, hmh.2, hpd⟩ hRR, hg _ (hst hsc), trivial⟩ ⟨zi_fb, hpre⟩ rfl (by rw [List.length_map]; exact hlen) hls rfl hrsv hdg ⟨hR3, hR4⟩) hS kk
theorem zi_refv {ad : Nat → Nat → Nat} {c0 k : Nat} : zi_cv ad (.inr (.inr (c0, some k))) = .ref (ad c0 k) := rfl
theorem zi_nulv {ad : Nat → Nat → Nat} {c0 : Nat} : zi_cv ad (.inr (.inr (c0, none))) = .null := rfl
end ZS
