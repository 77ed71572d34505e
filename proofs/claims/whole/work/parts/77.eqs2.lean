/-! equations of the small machine: what is made anew -/
theorem tab_rep {n : Nat} {v : Value} : List.replicate n v = tab n (fun _ => v) := by
  apply List.ext_getElem?
  intro i
  by_cases hi : i < n
  · rw [tab_get hi, List.getElem?_replicate, if_pos hi]
  · rw [List.getElem?_eq_none (by rw [List.length_replicate]; omega), List.getElem?_eq_none (by rw [tab_len]; omega)]
def q_is2 (x : sm_Cell) (ci : Nat) (P : Prop) : Prop := if x.1 = ci then P else False
section WPN
variable {xs : List Int32} {y pc : Nat} {L S : List Value} {h : sm_Hp} {c z : Nat} {K : Option Value → sm_Hp → Prop}
theorem Wp_newI {n : Nat} (hf : sm_fetch y pc = some (.newarray .int)) (hn : n ≤ 100000) (hc : c + 1 ≤ sm_mc y) (hz : z + n ≤ sm_ms y) : Wp xs y pc L (.int (nI n) :: S) h c z K = Wp xs y (pc + 2) L (.ref h.2 :: S) (sm_new h (10, tab n (fun _ => .int (nI 0)))) (c + 1) (z + n) K := by
  have e : (nI n).toNatClampNeg = n := nI_clamp (show n < 2 ^ 31 by omega)
  exact Wp_next (q := (pc + 2, L, .ref h.2 :: S, sm_new h (10, tab n (fun _ => .int (nI 0))), c + 1, z + n)) hf (by simp only [sm_act, sm_newa, sm_i1, e]; rw [if_pos ⟨nI_pos (show n < 2 ^ 31 by omega), hn, hc, hz⟩, tab_rep]; rfl)
theorem Wp_newJ {n : Nat} (hf : sm_fetch y pc = some (.newarray .long)) (hn : n ≤ 100000) (hc : c + 1 ≤ sm_mc y) (hz : z + n ≤ sm_ms y) : Wp xs y pc L (.int (nI n) :: S) h c z K = Wp xs y (pc + 2) L (.ref h.2 :: S) (sm_new h (11, tab n (fun _ => .long (lN 0)))) (c + 1) (z + n) K := by
  have e : (nI n).toNatClampNeg = n := nI_clamp (show n < 2 ^ 31 by omega)
  exact Wp_next (q := (pc + 2, L, .ref h.2 :: S, sm_new h (11, tab n (fun _ => .long (lN 0))), c + 1, z + n)) hf (by simp only [sm_act, sm_newa, sm_i1, e]; rw [if_pos ⟨nI_pos (show n < 2 ^ 31 by omega), hn, hc, hz⟩, tab_rep]; rfl)
theorem Wp_newZ {n : Nat} (hf : sm_fetch y pc = some (.newarray .boolean)) (hn : n ≤ 100000) (hc : c + 1 ≤ sm_mc y) (hz : z + n ≤ sm_ms y) : Wp xs y pc L (.int (nI n) :: S) h c z K = Wp xs y (pc + 2) L (.ref h.2 :: S) (sm_new h (12, tab n (fun _ => .int (nI 0)))) (c + 1) (z + n) K := by
  have e : (nI n).toNatClampNeg = n := nI_clamp (show n < 2 ^ 31 by omega)
  exact Wp_next (q := (pc + 2, L, .ref h.2 :: S, sm_new h (12, tab n (fun _ => .int (nI 0))), c + 1, z + n)) hf (by simp only [sm_act, sm_newa, sm_i1, e]; rw [if_pos ⟨nI_pos (show n < 2 ^ 31 by omega), hn, hc, hz⟩, tab_rep]; rfl)
theorem Wp_anew {idx n : Nat} (hf : sm_fetch y pc = some (.anewarray idx)) (hl : (sm_look sm_at (sm_oc y) idx).isSome = true) (hn : n ≤ 100000) (hc : c + 1 ≤ sm_mc y) (hz : z + n ≤ sm_ms y) : Wp xs y pc L (.int (nI n) :: S) h c z K = Wp xs y (pc + 3) L (.ref h.2 :: S) (sm_new h (14, tab n (fun _ => .null))) (c + 1) (z + n) K := by
  have e : (nI n).toNatClampNeg = n := nI_clamp (show n < 2 ^ 31 by omega)
  obtain ⟨r, hr⟩ := Option.isSome_iff_exists.mp hl
  exact Wp_next (q := (pc + 3, L, .ref h.2 :: S, sm_new h (14, tab n (fun _ => .null)), c + 1, z + n)) hf (by simp only [sm_act, hr, sm_i1, e]; rw [if_pos ⟨nI_pos (show n < 2 ^ 31 by omega), hn, hc, hz⟩, tab_rep]; rfl)
theorem Wp_new {idx ci N : Nat} {D : List Value} (hf : sm_fetch y pc = some (.new idx)) (hl : (sm_look sm_nt (sm_oc y) idx).map Prod.fst = some ci) (hN : sm_N ci = N) (hD : sm_df ci = D) (hc : c + 1 ≤ sm_mc y) (hz : z + N ≤ sm_ms y) : Wp xs y pc L S h c z K = Wp xs y (pc + 3) L (.ref h.2 :: S) (sm_new h (ci, D)) (c + 1) (z + N) K := by
  subst hN
  subst hD
  cases hr : sm_look sm_nt (sm_oc y) idx with
  | none => rw [hr] at hl; cases hl
  | some r =>
    obtain ⟨ci', r'⟩ := r
    rw [hr] at hl
    cases hl
    exact Wp_next (q := (pc + 3, L, .ref h.2 :: S, sm_new h (ci', sm_df ci'), c + 1, z + sm_N ci')) hf (by simp only [sm_act, hr]; rw [if_pos ⟨hc, hz⟩]; rfl)
theorem Wp_grid {idx n k : Nat} (hf : sm_fetch y pc = some (.multianewarray idx 2)) (hl : (sm_look sm_gt (sm_oc y) idx).isSome = true) (hn : n ≤ 100000) (hk : k ≤ 100000) (hc : c + (1 + n) ≤ sm_mc y) (hz : z + (n + n * k) ≤ sm_ms y) : Wp xs y pc L (.int (nI k) :: .int (nI n) :: S) h c z K = Wp xs y (pc + 4) L (.ref h.2 :: S) (sm_grid h n k) (c + 1 + n) (z + n + n * k) K := by
  have e : (nI n).toNatClampNeg = n := nI_clamp (show n < 2 ^ 31 by omega)
  have e2 : (nI k).toNatClampNeg = k := nI_clamp (show k < 2 ^ 31 by omega)
  obtain ⟨r, hr⟩ := Option.isSome_iff_exists.mp hl
  exact Wp_next (q := (pc + 4, L, .ref h.2 :: S, sm_grid h n k, c + 1 + n, z + n + n * k)) hf (by simp only [sm_act, hr, sm_i2, e, e2]; rw [if_pos trivial, if_pos ⟨⟨nI_pos (show n < 2 ^ 31 by omega), hn⟩, ⟨nI_pos (show k < 2 ^ 31 by omega), hk⟩, hc, hz⟩]; rfl)
theorem Wp_obj {idx y' n a : Nat} {ps : Nat × Nat × Nat × Nat} (hf : sm_fetch y pc = some (.invokespecial idx)) (hl : sm_look sm_ct (sm_oc y) idx = some (y', n, 4, ps)) (hs : (S.map fun v => v.category).sum ≤ 8 ∧ 0 < sm_lv y) : Wp xs y pc L (.ref a :: S) h c z K = Wp xs y (pc + 3) L S h c z K := Wp_next (q := (pc + 3, L, S, h, c, z)) hf (by simp only [sm_act, sm_inv, hl, sm_r1]; rw [if_pos hs]; rfl)
theorem Wp_spec {idx y' a kd : Nat} {ps : Nat × Nat × Nat × Nat} {L' : List Value} {mc ms : Nat} (hf : sm_fetch y pc = some (.invokespecial idx)) (hl : sm_look sm_ct (sm_oc y) idx = some (y', 0, kd, ps)) (hkd : kd = 2 ∨ kd = 3) (hy : y' < sm_law ∧ sm_lv y' < sm_lv y) (hs : (S.map fun v => v.category).sum ≤ 8) (hm : sm_mc y' = mc ∧ sm_ms y' = ms) (hc : c + mc ≤ sm_mc y) (hz : z + ms ≤ sm_ms y) (hw : (sm_wide [.ref a]).length ≤ sm_ml y') (hL : sm_init (sm_ml y') [.ref a] = L') : Wp xs y pc L (.ref a :: S) h c z K = Wp xs y' 0 L' [] h 0 0 (fun r h' => Wp xs y (pc + 3) L (psh r S) h' (c + mc) (z + ms) K) := by
  obtain ⟨rfl, rfl⟩ := hm
  subst hL
  refine Wp_call hf rfl ?_
  rcases hkd with rfl | rfl
  · simp only [sm_act, sm_inv, hl, sm_r1, List.drop_zero, List.take_zero, List.reverse_nil]
    rw [if_pos (Nat.zero_le _)]
    unfold sm_call
    rw [if_pos ⟨hy, hs, hc, hz, hw⟩]
  · simp only [sm_act, sm_inv, hl, sm_r1, List.drop_zero, List.take_zero, List.reverse_nil]
    rw [if_pos (Nat.zero_le _)]
    unfold sm_call
    rw [if_pos ⟨hy, hs, hc, hz, hw⟩]
theorem Wp_aastore {a v : Nat} {i : Int32} (hf : sm_fetch y pc = some .aastore) : Wp xs y pc L (.ref v :: .int i :: .ref a :: S) h c z K = q_is2 (h.1 v) 3 (q_st (h.1 a) 14 i (.ref v) (fun x => Wp xs y (pc + 1) L S (sm_up h a x) c z K)) := by
  unfold q_is2
  by_cases hv : (h.1 v).1 = 3
  · rw [if_pos hv]
    exact Wp_ast (ok := sm_okP h) hf (decide_eq_true hv) rfl
  · rw [if_neg hv]
    exact Wp_stop hf (by simp only [sm_act, sm_ast]; rw [if_neg (fun q => hv (of_decide_eq_true q.2.1))])
theorem q_is2_eq {ci : Nat} {fs : List Value} {P : Prop} : q_is2 (ci, fs) ci P = P := if_pos rfl
theorem q_is_t {x : sm_Cell} {ci : Nat} {P : Prop} (h : x.1 = ci) : q_is x ci P = P := if_pos h
end WPN
