/-! THE PURE PART: WAYS, over plain numbers -/
theorem zp_3pos (n : Nat) : 0 < 3 ^ n := by
  induction n with
  | zero => decide
  | succ n ih => rw [Nat.pow_succ]; omega
abbrev zw_w : Type := List (Nat × zf_S)
abbrev zw_good (E : zf_E) (s : zf_S) (b : Nat) : Prop := zf_can E.1 s b ∧ zf_fell E (zf_mv E s b) = 0
def zw_br (E : zf_E) (f : zf_S → List zw_w) (s : zf_S) (b : Nat) : List zw_w := if zw_good E s b then (f (zf_bt E s b)).map (fun w => (b, zf_bt E s b) :: w) else []
def zw_ways (E : zf_E) : Nat → zf_S → List zw_w
  | 0, s => if zf_over E.1 s then [[]] else []
  | n + 1, s => if zf_over E.1 s then [[]] else zw_br E (zw_ways E n) s 0 ++ (zw_br E (zw_ways E n) s 1 ++ zw_br E (zw_ways E n) s 2)
theorem zw_ways_over (E : zf_E) (n : Nat) (s : zf_S) (h : zf_over E.1 s) : zw_ways E n s = [[]] := by
  cases n <;> simp only [zw_ways, if_pos h]
/-- what is left to try at a place: from BEAT nb on, at depth d -/
def zw_fm (E : zf_E) (s : zf_S) (nb d : Nat) : List zw_w := if zf_over E.1 s then [] else if 6 ≤ d then [] else (if nb ≤ 0 then zw_br E (zw_ways E (5 - d)) s 0 else []) ++ ((if nb ≤ 1 then zw_br E (zw_ways E (5 - d)) s 1 else []) ++ (if nb ≤ 2 then zw_br E (zw_ways E (5 - d)) s 2 else []))
theorem zw_fm_over {E : zf_E} {s : zf_S} (h : zf_over E.1 s) (nb d : Nat) : zw_fm E s nb d = [] := by simp only [zw_fm, if_pos h]
theorem zw_fm_six {E : zf_E} {s : zf_S} {d : Nat} (h : 6 ≤ d) (nb : Nat) : zw_fm E s nb d = [] := by
  simp only [zw_fm, if_pos h]; split <;> rfl
theorem zw_fm_three {E : zf_E} {s : zf_S} {nb : Nat} (h : 3 ≤ nb) (d : Nat) : zw_fm E s nb d = [] := by
  simp only [zw_fm, if_neg (show ¬ nb ≤ 0 from by omega), if_neg (show ¬ nb ≤ 1 from by omega), if_neg (show ¬ nb ≤ 2 from by omega), List.append_nil, ite_self]
theorem zw_fm_step {E : zf_E} {s : zf_S} {nb d : Nat} (h : ¬ zf_over E.1 s) (hd : d < 6) (hn : nb < 3) : zw_fm E s nb d = zw_br E (zw_ways E (5 - d)) s nb ++ zw_fm E s (nb + 1) d := by
  have h' : nb = 0 ∨ nb = 1 ∨ nb = 2 := by omega
  simp only [zw_fm, if_neg h, if_neg (show ¬ 6 ≤ d from by omega)]
  rcases h' with e | e | e <;> subst e <;> simp
theorem zw_ways_fm {E : zf_E} {t : zf_S} {d : Nat} (h : ¬ zf_over E.1 t) (hd : d < 6) : zw_ways E (5 - d) t = zw_fm E t 0 (d + 1) := by
  by_cases e : d = 5
  · subst e; rw [zw_fm_six (by omega)]; simp only [Nat.sub_self, zw_ways, if_neg h]
  · have e1 : 5 - d = (5 - (d + 1)) + 1 := by omega
    rw [e1]
    simp only [zw_ways, zw_fm, if_neg h, if_neg (show ¬ 6 ≤ d + 1 from by omega), Nat.le_refl, Nat.zero_le, if_true]
theorem zw_br_bad {E : zf_E} {f : zf_S → List zw_w} {s : zf_S} {b : Nat} (h : ¬ zw_good E s b) : zw_br E f s b = [] := if_neg h
theorem zw_br_over {E : zf_E} {n : Nat} {s : zf_S} {b : Nat} (h : zw_good E s b) (ho : zf_over E.1 (zf_bt E s b)) : zw_br E (zw_ways E n) s b = [[(b, zf_bt E s b)]] := by
  rw [zw_br, if_pos h, zw_ways_over E n _ ho]; rfl
theorem zw_br_go {E : zf_E} {d : Nat} {s : zf_S} {b : Nat} (h : zw_good E s b) (ho : ¬ zf_over E.1 (zf_bt E s b)) (hd : d < 6) : zw_br E (zw_ways E (5 - d)) s b = (zw_fm E (zf_bt E s b) 0 (d + 1)).map (fun w => (b, zf_bt E s b) :: w) := by
  rw [zw_br, if_pos h, zw_ways_fm ho hd]
/-- the trail: places and BEATS to come; the path so far; what is still to come; how many tries at most -/
def zw_pa (sp : Nat → zf_S) (nb : Nat → Nat) : Nat → zw_w
  | 0 => []
  | d + 1 => zw_pa sp nb d ++ [(nb d - 1, sp (d + 1))]
def zw_re (E : zf_E) (sp : Nat → zf_S) (nb : Nat → Nat) : Nat → List zw_w
  | 0 => []
  | m + 1 => (zw_fm E (sp m) (nb m) m).map (fun w => zw_pa sp nb m ++ w) ++ zw_re E sp nb m
def zw_mu (nb : Nat → Nat) : Nat → Nat
  | 0 => 0
  | m + 1 => zw_mu nb m + (1 + (3 - nb m) * (3 ^ (6 - m) - 1))
theorem zw_pa_c {sp sp' : Nat → zf_S} {nb nb' : Nat → Nat} {d : Nat} (h : ∀ j, j ≤ d → sp' j = sp j) (h2 : ∀ j, j < d → nb' j = nb j) : zw_pa sp' nb' d = zw_pa sp nb d := by
  induction d with
  | zero => rfl
  | succ d ih => simp only [zw_pa]; rw [ih (fun j hj => h j (by omega)) (fun j hj => h2 j (by omega)), h2 d (by omega), h (d + 1) (by omega)]
theorem zw_re_c {E : zf_E} {sp sp' : Nat → zf_S} {nb nb' : Nat → Nat} {m : Nat} (h : ∀ j, j < m → sp' j = sp j) (h2 : ∀ j, j < m → nb' j = nb j) : zw_re E sp' nb' m = zw_re E sp nb m := by
  induction m with
  | zero => rfl
  | succ m ih => simp only [zw_re]; rw [ih (fun j hj => h j (by omega)) (fun j hj => h2 j (by omega)), h2 m (by omega), h m (by omega), zw_pa_c (fun j hj => h j (by omega)) (fun j hj => h2 j (by omega))]
theorem zw_mu_c {nb nb' : Nat → Nat} {m : Nat} (h2 : ∀ j, j < m → nb' j = nb j) : zw_mu nb' m = zw_mu nb m := by
  induction m with
  | zero => rfl
  | succ m ih => simp only [zw_mu]; rw [ih (fun j hj => h2 j (by omega)), h2 m (by omega)]
theorem zw_pa_len (sp : Nat → zf_S) (nb : Nat → Nat) (d : Nat) : (zw_pa sp nb d).length = d := by
  induction d with
  | zero => rfl
  | succ d ih => simp [zw_pa, ih]
theorem zw_pa_at (sp : Nat → zf_S) (nb : Nat → Nat) (d j : Nat) (h : j < d) : (zw_pa sp nb d)[j]? = some (nb j - 1, sp (j + 1)) := by
  induction d with
  | zero => omega
  | succ d ih =>
    simp only [zw_pa]
    by_cases e : j = d
    · subst e; rw [List.getElem?_append_right (by rw [zw_pa_len]; exact Nat.le_refl _), zw_pa_len, Nat.sub_self]; rfl
    · rw [List.getElem?_append_left (by rw [zw_pa_len]; omega)]; exact ih (by omega)
/-- one more BEAT tried at the end of the trail -/
def zw_n1 (nb : Nat → Nat) (m : Nat) : Nat → Nat := fun j => if j = m then nb m + 1 else nb j
def zw_n2 (nb : Nat → Nat) (m : Nat) : Nat → Nat := fun j => if j = m + 1 then 0 else zw_n1 nb m j
def zw_s2 (sp : Nat → zf_S) (m : Nat) (t : zf_S) : Nat → zf_S := fun j => if j = m + 1 then t else sp j
theorem zw_re_pop {E : zf_E} {sp : Nat → zf_S} {nb : Nat → Nat} {m : Nat} (h : zw_fm E (sp m) (nb m) m = []) : zw_re E sp nb (m + 1) = zw_re E sp nb m := by simp [zw_re, h]
theorem zw_re_fail {E : zf_E} {sp : Nat → zf_S} {nb : Nat → Nat} {m : Nat} (ho : ¬ zf_over E.1 (sp m)) (hm : m < 6) (hn : nb m < 3) (hg : ¬ zw_good E (sp m) (nb m)) : zw_re E sp nb (m + 1) = zw_re E sp (zw_n1 nb m) (m + 1) := by
  have e : zw_n1 nb m m = nb m + 1 := by simp [zw_n1]
  simp only [zw_re, e]
  rw [zw_fm_step ho hm hn, zw_br_bad hg, List.nil_append, zw_pa_c (sp := sp) (nb := nb) (sp' := sp) (nb' := zw_n1 nb m) (fun j _ => rfl) (fun j hj => by simp [zw_n1, show ¬ j = m from by omega]), zw_re_c (sp := sp) (nb := nb) (sp' := sp) (nb' := zw_n1 nb m) (fun j _ => rfl) (fun j hj => by simp [zw_n1, show ¬ j = m from by omega])]
theorem zw_pa_push {sp : Nat → zf_S} {nb : Nat → Nat} {m : Nat} (t : zf_S) : zw_pa (zw_s2 sp m t) (zw_n2 nb m) (m + 1) = zw_pa sp nb m ++ [(nb m, t)] := by
  simp only [zw_pa]
  rw [zw_pa_c (sp := sp) (nb := nb) (fun j hj => by simp [zw_s2, show ¬ j = m + 1 from by omega]) (fun j hj => by simp [zw_n2, zw_n1, show ¬ j = m + 1 from by omega, show ¬ j = m from by omega])]
  simp [zw_n2, zw_n1, zw_s2]
theorem zw_re_low {E : zf_E} {sp : Nat → zf_S} {nb : Nat → Nat} {m : Nat} (t : zf_S) : zw_re E (zw_s2 sp m t) (zw_n2 nb m) (m + 1) = (zw_fm E (sp m) (nb m + 1) m).map (fun w => zw_pa sp nb m ++ w) ++ zw_re E sp nb m := by
  have e1 : zw_n2 nb m m = nb m + 1 := by simp [zw_n1, zw_n2]
  have e2 : zw_s2 sp m t m = sp m := by simp [zw_s2]
  simp only [zw_re, e1, e2]
  rw [zw_pa_c (sp := sp) (nb := nb) (fun j hj => by simp [zw_s2, show ¬ j = m + 1 from by omega]) (fun j hj => by simp [zw_n2, zw_n1, show ¬ j = m + 1 from by omega, show ¬ j = m from by omega]), zw_re_c (sp := sp) (nb := nb) (fun j hj => by simp [zw_s2, show ¬ j = m + 1 from by omega]) (fun j hj => by simp [zw_n2, zw_n1, show ¬ j = m + 1 from by omega, show ¬ j = m from by omega])]
theorem zw_re_push {E : zf_E} {sp : Nat → zf_S} {nb : Nat → Nat} {m : Nat} (ho : ¬ zf_over E.1 (sp m)) (hm : m < 6) (hn : nb m < 3) (hg : zw_good E (sp m) (nb m)) (ho2 : ¬ zf_over E.1 (zf_bt E (sp m) (nb m))) : zw_re E sp nb (m + 1) = zw_re E (zw_s2 sp m (zf_bt E (sp m) (nb m))) (zw_n2 nb m) (m + 2) := by
  have e1 : zw_n2 nb m (m + 1) = 0 := by simp [zw_n2]
  have e2 : zw_s2 sp m (zf_bt E (sp m) (nb m)) (m + 1) = zf_bt E (sp m) (nb m) := by simp [zw_s2]
  have e3 : zw_re E (zw_s2 sp m (zf_bt E (sp m) (nb m))) (zw_n2 nb m) (m + 2) = (zw_fm E (zf_bt E (sp m) (nb m)) 0 (m + 1)).map (fun w => zw_pa (zw_s2 sp m (zf_bt E (sp m) (nb m))) (zw_n2 nb m) (m + 1) ++ w) ++ zw_re E (zw_s2 sp m (zf_bt E (sp m) (nb m))) (zw_n2 nb m) (m + 1) := by
    rw [zw_re, e1, e2]
  rw [e3, zw_re_low, zw_pa_push, zw_re, zw_fm_step ho hm hn, zw_br_go hg ho2 hm]
  simp only [List.map_append, List.map_map, List.append_assoc]
  congr 1
theorem zw_re_hit {E : zf_E} {sp : Nat → zf_S} {nb : Nat → Nat} {m : Nat} (ho : ¬ zf_over E.1 (sp m)) (hm : m < 6) (hn : nb m < 3) (hg : zw_good E (sp m) (nb m)) (ho2 : zf_over E.1 (zf_bt E (sp m) (nb m))) : zw_re E sp nb (m + 1) = zw_pa (zw_s2 sp m (zf_bt E (sp m) (nb m))) (zw_n2 nb m) (m + 1) :: zw_re E (zw_s2 sp m (zf_bt E (sp m) (nb m))) (zw_n2 nb m) (m + 2) := by
  have e2 : zw_s2 sp m (zf_bt E (sp m) (nb m)) (m + 1) = zf_bt E (sp m) (nb m) := by simp [zw_s2]
  have e3 : zw_re E (zw_s2 sp m (zf_bt E (sp m) (nb m))) (zw_n2 nb m) (m + 2) = zw_re E (zw_s2 sp m (zf_bt E (sp m) (nb m))) (zw_n2 nb m) (m + 1) := zw_re_pop (by rw [e2]; exact zw_fm_over ho2 _ _)
  rw [e3, zw_re_low, zw_pa_push, zw_re, zw_fm_step ho hm hn, zw_br_over hg ho2]
  simp
theorem zw_mu_pop (nb : Nat → Nat) (m : Nat) : zw_mu nb m + 1 ≤ zw_mu nb (m + 1) := by simp only [zw_mu]; omega
theorem zw_mu_fail {nb : Nat → Nat} {m : Nat} (hm : m < 6) (hn : nb m < 3) : zw_mu (zw_n1 nb m) (m + 1) + 1 ≤ zw_mu nb (m + 1) := by
  have e : zw_n1 nb m m = nb m + 1 := by simp [zw_n1]
  simp only [zw_mu, e]
  rw [zw_mu_c (nb := nb) (fun j hj => by simp [zw_n1, show ¬ j = m from by omega])]
  have e1 : ∀ X, (3 - nb m) * X = (3 - (nb m + 1)) * X + X := fun X => by rw [show 3 - nb m = (3 - (nb m + 1)) + 1 from by omega, Nat.succ_mul]
  rw [e1]
  have : 3 ≤ 3 ^ (6 - m) := by
    have e2 : 6 - m = (5 - m) + 1 := by omega
    rw [e2, Nat.pow_succ]
    have := zp_3pos (5 - m)
    omega
  omega
theorem zw_mu_push {nb : Nat → Nat} {m : Nat} (hm : m < 6) (hn : nb m < 3) : zw_mu (zw_n2 nb m) (m + 2) + 1 ≤ zw_mu nb (m + 1) := by
  have e : zw_n2 nb m m = nb m + 1 := by simp [zw_n1, zw_n2]
  have e0 : zw_n2 nb m (m + 1) = 0 := by simp [zw_n2]
  simp only [zw_mu, e, e0]
  rw [zw_mu_c (nb := nb) (fun j hj => by simp [zw_n2, zw_n1, show ¬ j = m + 1 from by omega, show ¬ j = m from by omega])]
  have e1 : ∀ X, (3 - nb m) * X = (3 - (nb m + 1)) * X + X := fun X => by rw [show 3 - nb m = (3 - (nb m + 1)) + 1 from by omega, Nat.succ_mul]
  rw [e1]
  have e2 : 6 - m = (6 - (m + 1)) + 1 := by omega
  have e3 : 3 ^ (6 - m) = 3 ^ (6 - (m + 1)) * 3 := by rw [e2, Nat.pow_succ]
  have := zp_3pos (6 - (m + 1))
  rw [e3]
  generalize (3 - (nb m + 1)) * (3 ^ (6 - (m + 1)) * 3 - 1) = q
  omega
/-- codes one by one -/
def zw_lst (f : Nat → Option zw_w) : Nat → Nat → List zw_w
  | _, 0 => []
  | c, k + 1 => match f c with
    | none => zw_lst f (c + 1) k
    | some w => w :: zw_lst f (c + 1) k
theorem zw_lst_n {f : Nat → Option zw_w} {c k : Nat} (h : f c = none) : zw_lst f c (k + 1) = zw_lst f (c + 1) k := by simp [zw_lst, h]
theorem zw_lst_s {f : Nat → Option zw_w} {c k : Nat} {w : zw_w} (h : f c = some w) : zw_lst f c (k + 1) = w :: zw_lst f (c + 1) k := by simp [zw_lst, h]
theorem zw_lst_add (f : Nat → Option zw_w) (a b c : Nat) : zw_lst f c (a + b) = zw_lst f c a ++ zw_lst f (c + a) b := by
  induction a generalizing c with
  | zero => simp [zw_lst]
  | succ a ih =>
    rw [show a + 1 + b = (a + b) + 1 from by omega, show c + (a + 1) = (c + 1) + a from by omega]
    cases h : f c with
    | none => rw [zw_lst_n h, zw_lst_n h, ih]
    | some w => rw [zw_lst_s h, zw_lst_s h, ih]; rfl
theorem zw_lst_nil {f : Nat → Option zw_w} {c k : Nat} (h : ∀ j, j < k → f (c + j) = none) : zw_lst f c k = [] := by
  induction k generalizing c with
  | zero => rfl
  | succ k ih => rw [zw_lst_n (c := c) (by simpa using h 0 (by omega))]; exact ih (fun j hj => by rw [show c + 1 + j = c + (j + 1) from by omega]; exact h (j + 1) (by omega))
theorem zw_lst_map {f g : Nat → Option zw_w} {h : zw_w → zw_w} {c c' k : Nat} (hh : ∀ j, j < k → f (c + j) = (g (c' + j)).map h) : zw_lst f c k = (zw_lst g c' k).map h := by
  induction k generalizing c c' with
  | zero => rfl
  | succ k ih =>
    have h0 := hh 0 (by omega)
    rw [Nat.add_zero, Nat.add_zero] at h0
    have ih' := ih (c := c + 1) (c' := c' + 1) (fun j hj => by rw [show c + 1 + j = c + (j + 1) from by omega, show c' + 1 + j = c' + (j + 1) from by omega]; exact hh (j + 1) (by omega))
    cases e : g c' with
    | none => rw [e] at h0; rw [zw_lst_n e, zw_lst_n h0, ih']
    | some w => rw [e] at h0; rw [zw_lst_s e, zw_lst_s h0, ih']; rfl
theorem zw_lst_len (f : Nat → Option zw_w) (c k : Nat) : (zw_lst f c k).length ≤ k := by
  induction k generalizing c with
  | zero => exact Nat.le_refl 0
  | succ k ih =>
    cases e : f c with
    | none => rw [zw_lst_n e]; have := ih (c + 1); omega
    | some w => rw [zw_lst_s e]; have := ih (c + 1); simp only [List.length_cons]; omega
/-- the WAY of a code -/
def zw_go (E : zf_E) : Nat → zf_S → Nat → Option zw_w
  | 0, s, c => if zf_over E.1 s then (if c = 0 then some [] else none) else none
  | n + 1, s, c => if zf_over E.1 s then (if c = 0 then some [] else none) else if zw_good E s (c / 3 ^ n) then (zw_go E n (zf_bt E s (c / 3 ^ n)) (c % 3 ^ n)).map (fun w => (c / 3 ^ n, zf_bt E s (c / 3 ^ n)) :: w) else none
theorem zw_go_over {E : zf_E} {s : zf_S} (h : zf_over E.1 s) (n c : Nat) : zw_go E n s c = if c = 0 then some [] else none := by
  cases n <;> simp only [zw_go, if_pos h]
theorem zw_go_b {E : zf_E} {s : zf_S} {n b j : Nat} (h : ¬ zf_over E.1 s) (hj : j < 3 ^ n) : zw_go E (n + 1) s (3 ^ n * b + j) = if zw_good E s b then (zw_go E n (zf_bt E s b) j).map (fun w => (b, zf_bt E s b) :: w) else none := by
  have e1 : (3 ^ n * b + j) / 3 ^ n = b := by rw [Nat.mul_add_div (by omega), Nat.div_eq_of_lt hj, Nat.add_zero]
  have e2 : (3 ^ n * b + j) % 3 ^ n = j := by rw [Nat.mul_add_mod, Nat.mod_eq_of_lt hj]
  rw [zw_go, if_neg h, e1, e2]
theorem zw_blk {E : zf_E} {s : zf_S} {n : Nat} (h : ¬ zf_over E.1 s) (ih : ∀ t, zw_lst (zw_go E n t) 0 (3 ^ n) = zw_ways E n t) (b : Nat) : zw_lst (zw_go E (n + 1) s) (3 ^ n * b) (3 ^ n) = zw_br E (zw_ways E n) s b := by
  by_cases hg : zw_good E s b
  · rw [zw_br, if_pos hg, ← ih]
    refine zw_lst_map (fun j hj => ?_)
    rw [zw_go_b h hj, if_pos hg, Nat.zero_add]
  · rw [zw_br, if_neg hg]
    refine zw_lst_nil (fun j hj => ?_)
    rw [zw_go_b h hj, if_neg hg]
theorem zw_go_ways (E : zf_E) (n : Nat) (s : zf_S) : zw_lst (zw_go E n s) 0 (3 ^ n) = zw_ways E n s := by
  have ov : ∀ n, zf_over E.1 s → zw_lst (zw_go E n s) 0 (3 ^ n) = zw_ways E n s := by
    intro n h
    rw [zw_ways_over E n s h]
    have hp := zp_3pos (n)
    obtain ⟨k, hk⟩ : ∃ k, 3 ^ n = k + 1 := ⟨3 ^ n - 1, by omega⟩
    rw [hk, zw_lst_s (w := []) (by rw [zw_go_over h, if_pos rfl]), zw_lst_nil (fun j hj => by rw [zw_go_over h, if_neg (by omega)])]
  induction n generalizing s with
  | zero =>
    by_cases h : zf_over E.1 s
    · exact ov 0 h
    · simp only [zw_ways, if_neg h]
      exact zw_lst_nil (fun j hj => by simp only [zw_go, if_neg h])
  | succ n ih =>
    by_cases h : zf_over E.1 s
    · exact ov (n + 1) h
    · have ih' : ∀ t, zw_lst (zw_go E n t) 0 (3 ^ n) = zw_ways E n t := fun t => ih t (fun n h => by
        rw [zw_ways_over E n t h]
        have hp := zp_3pos (n)
        obtain ⟨k, hk⟩ : ∃ k, 3 ^ n = k + 1 := ⟨3 ^ n - 1, by omega⟩
        rw [hk, zw_lst_s (w := []) (by rw [zw_go_over h, if_pos rfl]), zw_lst_nil (fun j hj => by rw [zw_go_over h, if_neg (by omega)])])
      have b0 := zw_blk h ih' 0
      have b1 := zw_blk h ih' 1
      have b2 := zw_blk h ih' 2
      rw [show 3 ^ (n + 1) = 3 ^ n + (3 ^ n + 3 ^ n) from by rw [Nat.pow_succ]; omega, zw_lst_add, zw_lst_add, zw_ways, if_neg h, ← b0, ← b1, ← b2, Nat.mul_zero, Nat.mul_one, Nat.zero_add, show 3 ^ n * 2 = 3 ^ n + 3 ^ n from by omega]
theorem zw_ways_len (E : zf_E) (n : Nat) (s : zf_S) : (zw_ways E n s).length ≤ 3 ^ n := by rw [← zw_go_ways]; exact zw_lst_len _ _ _
