/-! ONE STEP, without calls -/
section SMS
variable {p : Program} {l : Launch} {e : Env} {s : State} {m : MethodId} {args : Array Value} {below : List Frame} {meth : Method} {c : Code} {Q : State → Prop} {D : va_G} {bs b y : Nat} {pc cc zz : Nat} {L S : List Value} {h : sm_Hp} {q : sm_Cf} {xs : List Int32}
theorem sm_nx_inv {pc : Nat} {L S : List Value} {h : sm_Hp} {c z : Nat} {q : sm_Cf} (hq : sm_nx pc L S h c z = some (.inl q)) : q = (pc, L, S, h, c, z) := by
  unfold sm_nx at hq
  cases hq
  rfl
theorem sm_i1_inv {S : List Value} {f : Int32 → List Value → Option sm_Ac} {r : sm_Ac} (hq : sm_i1 S f = some r) : ∃ a S', S = .int a :: S' ∧ f a S' = some r := by
  unfold sm_i1 at hq
  split at hq
  · exact ⟨_, _, rfl, hq⟩
  · cases hq
theorem sm_i2_inv {S : List Value} {f : Int32 → Int32 → List Value → Option sm_Ac} {r : sm_Ac} (hq : sm_i2 S f = some r) : ∃ a b S', S = .int b :: .int a :: S' ∧ f a b S' = some r := by
  unfold sm_i2 at hq
  split at hq
  · exact ⟨_, _, _, rfl, hq⟩
  · cases hq
theorem sm_j1_inv {S : List Value} {f : Int64 → List Value → Option sm_Ac} {r : sm_Ac} (hq : sm_j1 S f = some r) : ∃ a S', S = .long a :: S' ∧ f a S' = some r := by
  unfold sm_j1 at hq
  split at hq
  · exact ⟨_, _, rfl, hq⟩
  · cases hq
theorem sm_j2_inv {S : List Value} {f : Int64 → Int64 → List Value → Option sm_Ac} {r : sm_Ac} (hq : sm_j2 S f = some r) : ∃ a b S', S = .long b :: .long a :: S' ∧ f a b S' = some r := by
  unfold sm_j2 at hq
  split at hq
  · exact ⟨_, _, _, rfl, hq⟩
  · cases hq
theorem sm_ji_inv {S : List Value} {f : Int64 → Int32 → List Value → Option sm_Ac} {r : sm_Ac} (hq : sm_ji S f = some r) : ∃ a b S', S = .int b :: .long a :: S' ∧ f a b S' = some r := by
  unfold sm_ji at hq
  split at hq
  · exact ⟨_, _, _, rfl, hq⟩
  · cases hq
theorem sm_r1_inv {S : List Value} {f : Nat → List Value → Option sm_Ac} {r : sm_Ac} (hq : sm_r1 S f = some r) : ∃ a S', S = .ref a :: S' ∧ f a S' = some r := by
  unfold sm_r1 at hq
  split at hq
  · exact ⟨_, _, rfl, hq⟩
  · cases hq
theorem sm_ai_inv {S : List Value} {f : Nat → Int32 → List Value → Option sm_Ac} {r : sm_Ac} (hq : sm_ai S f = some r) : ∃ a i S', S = .int i :: .ref a :: S' ∧ f a i S' = some r := by
  unfold sm_ai at hq
  split at hq
  · exact ⟨_, _, _, rfl, hq⟩
  · cases hq
theorem sm_li_inv {L : List Value} {i : Nat} {f : Int32 → Option sm_Ac} {r : sm_Ac} (hq : sm_li L i f = some r) : ∃ v, L[i]? = some (.int v) ∧ f v = some r := by
  unfold sm_li at hq
  split at hq
  next v hv => exact ⟨_, hv, hq⟩
  · cases hq
theorem sm_lj_inv {L : List Value} {i : Nat} {f : Int64 → Option sm_Ac} {r : sm_Ac} (hq : sm_lj L i f = some r) : ∃ v, L[i]? = some (.long v) ∧ f v = some r := by
  unfold sm_lj at hq
  split at hq
  next v hv => exact ⟨_, hv, hq⟩
  · cases hq
theorem sm_la_inv {L : List Value} {i : Nat} {f : Value → Option sm_Ac} {r : sm_Ac} (hq : sm_la L i f = some r) : ∃ v, L[i]? = some v ∧ v ≠ .null ∧ (∃ bs : Nat → Nat → Nat, ∀ x y, sm_mv x y v = .ref (bs x y)) ∧ f v = some r := by
  unfold sm_la at hq
  split at hq
  next a hv => exact ⟨_, hv, (by intro h; cases h), ⟨fun x _ => x + a, fun _ _ => rfl⟩, hq⟩
  next a hv => exact ⟨_, hv, (by intro h; cases h), ⟨fun _ y => y, fun _ _ => rfl⟩, hq⟩
  · cases hq
theorem sm_st_inv {L : List Value} {i : Nat} {v : Value} {f : List Value → Option sm_Ac} {r : sm_Ac} (hq : sm_st L i v f = some r) : i < L.length ∧ sm_pj L i = false ∧ f (L.set i v) = some r := by
  unfold sm_st at hq
  split at hq
  next hc => exact ⟨hc.1, hc.2, hq⟩
  · cases hq
theorem sm_st2_inv {L : List Value} {i : Nat} {v : Value} {f : List Value → Option sm_Ac} {r : sm_Ac} (hq : sm_st2 L i v f = some r) : i + 1 < L.length ∧ sm_pj L i = false ∧ f ((L.set i v).set (i + 1) .null) = some r := by
  unfold sm_st2 at hq
  split at hq
  next hc => exact ⟨hc.1, hc.2, hq⟩
  · cases hq
theorem sm_jmp_inv {pc : Nat} {off : Int} {f : Nat → Option sm_Ac} {r : sm_Ac} (hq : sm_jmp pc off f = some r) : ∃ t : Nat, (pc : Int) + off = (t : Int) ∧ f t = some r := by
  unfold sm_jmp at hq
  split at hq
  next hc => exact ⟨_, (Int.toNat_of_nonneg hc).symm, hq⟩
  · cases hq
theorem sm_if_inv {α : Type} {P : Prop} [Decidable P] {x : Option α} {r : α} (hq : (if P then x else none) = some r) : P ∧ x = some r := by
  split at hq
  next hc => exact ⟨hc, hq⟩
  · cases hq
theorem sm_if_inv2 {α : Type} {P : Prop} [Decidable P] {x : Option α} {r : α} (hq : (if P then none else x) = some r) : ¬ P ∧ x = some r := by
  split at hq
  · cases hq
  next hc => exact ⟨hc, hq⟩
end SMS
