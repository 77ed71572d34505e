/-! both sides: path() -/
section OPP
variable {h : sm_Hp} {s : CS}
theorem mat_tx {m : MC} {T : Nat → Nat} {n : Nat} (I : MAt h m) (et : m.1.2.1 = n) (e : ∀ i, i < 120 → m.2.2.1.1 i = T i) : MAt h ((m.1.1, n, m.1.2.2.1, m.1.2.2.2), (m.2.1.1, m.2.1.2.1, m.2.1.2.2.1, m.2.1.2.2.2.1, m.2.1.2.2.2.2.1, m.2.1.2.2.2.2.2), (T, m.2.2.1.2.1, m.2.2.1.2.2.1, m.2.2.1.2.2.2.1, m.2.2.1.2.2.2.2), (m.2.2.2.1.1, m.2.2.2.1.2.1, m.2.2.2.1.2.2.1, m.2.2.2.1.2.2.2), (m.2.2.2.2.1, m.2.2.2.2.2.1, m.2.2.2.2.2.2)) := by
  subst et
  exact ⟨I.o, I.tx.trans (congrArg (fun l => ((10 : Nat), l)) (tab_congr (fun i hi => by rw [e i hi]))), I.mn, I.st, I.sd, I.sp, I.sf, I.kp, I.kb, I.ud, I.fd, I.fr, I.wy⟩
theorem zero_ok (len : Nat) : PrOk len zeroP := ⟨fun _ _ => Nat.zero_le _, fun _ _ _ => rfl, fun _ => Nat.two_pow_pos _, fun _ => Nat.zero_le _, fun _ => Nat.zero_le _⟩
theorem sv_zero {i : Nat} : sv zeroP i = 0 := by
  unfold sv
  split
  · rfl
  · split
    · exact bitI_0 _
    · split <;> rfl
theorem o_path (B : Bt h s) : Opc m_TwoPrints_path m_Model_path [.ref 0, .null, .null] [.ref 98, .null, .null, .null] h := by
  intro xs K q
  obtain ⟨j, m, I, J, R, ok, hh⟩ := B
  obtain ⟨r1, r2, r3, r4, r5, r6, r7⟩ := R
  have J1 := mat_tx J r1.1 r1.2
  refine C_path I ok (fun e he h1 j1 I1 f1 => ?_) (fun it pa ht h1 j1 I1 f1 => ?_)
  · refine M_path (J1.frC f1) ok.1.2 ok.1.1 (fun e' he' _ mn st sd sp nx tk pl vl tl L => ?_) (fun it pa' ht' => ?_)
    · have ee : e = e' := Sum.inl.inj (he.symm.trans he')
      subst ee
      have F := yh_fr (h := h1) (m := ((m.1.1, s.1.2, m.1.2.2.1, m.1.2.2.2), (m.2.1.1, m.2.1.2.1, m.2.1.2.2.1, m.2.1.2.2.2.1, m.2.1.2.2.2.2.1, m.2.1.2.2.2.2.2), (s.1.1, m.2.2.1.2.1, m.2.2.1.2.2.1, m.2.2.1.2.2.2.1, m.2.2.1.2.2.2.2), (m.2.2.2.1.1, m.2.2.2.1.2.1, m.2.2.2.1.2.2.1, m.2.2.2.1.2.2.2), (m.2.2.2.2.1, m.2.2.2.2.2.1, m.2.2.2.2.2.2))) (mn := mn) (st := st) (sd := sd) (sp := sp) (nx := nx) (tk := tk) (pl := pl) (vl := vl) (fl := nI e) (tl := tl)
      refine q _ _ s ⟨j1, _, I1.frM F, yh_at (J1.frC f1), ?_, ok, by rw [F.2, f1.2, hh]⟩
      refine ⟨⟨rfl, fun i hi => rfl⟩, ⟨(L.1 0 (by omega)).trans r2.1, (L.1 1 (by omega)).trans r2.2.1, (L.1 2 (by omega)).trans r2.2.2.1, (L.1 3 (by omega)).trans r2.2.2.2.1, fun k hk => ?_⟩, r3, r4, r5, r6, r7⟩
      have l2 := L.2 k hk
      have p2 := r2.2.2.2.2 k hk
      exact ⟨l2.1.trans p2.1, l2.2.1.trans p2.2.1, l2.2.2.trans p2.2.2⟩
    · exact absurd (he.symm.trans ht') (by intro z; cases z)
  · refine M_path (J1.frC f1) ok.1.2 ok.1.1 (fun e' he' => ?_) (fun it' pa' ht' mn st sd sp nx tk pl vl fv tl tp h' I' F' => ?_)
    · exact absurd (ht.symm.trans he') (by intro z; cases z)
    · have ee := Sum.inr.inj (ht.symm.trans ht')
      cases ee
      obtain ⟨-, okp⟩ := tellS_ok ht
      obtain ⟨⟨t4, t5, t6, t7⟩, tw, -⟩ := tp
      have e4 : ∀ i, i < 4 → cpF mn mn 0 4 4 i = mn (4 + i) := fun i hi => cpF_in (by omega) (by omega)
      refine q _ h' (sPath s pa) ⟨j1, _, I1.frM F', I', ?_, ?_, by rw [F'.2, f1.2, hh]⟩
      · refine ⟨⟨rfl, fun i hi => rfl⟩, ⟨?_, ?_, ?_, ?_, fun k hk => ?_⟩, fun i hi => ?_, ⟨rfl, fun i hi => absurd hi (Nat.not_lt_zero _)⟩, fun i hi => ⟨rfl, fun z => by cases z⟩, ⟨rfl, fun e he => absurd he (Nat.not_lt_zero _), fun x => ?_⟩, r7⟩
        · exact (e4 0 (by omega)).trans t4
        · exact (e4 1 (by omega)).trans t5
        · exact (e4 2 (by omega)).trans t6
        · exact (e4 3 (by omega)).trans t7
        · have w := tw k hk
          have e1 : ∀ f : Nat → Nat, cpF f f 0 2 2 k = f (2 + k) := fun f => cpF_in (by omega) (by omega)
          exact ⟨(e1 st).trans w.1, (e1 sd).trans w.2.1, (e1 sp).trans w.2.2⟩
        · rw [show (sPath s pa).2.2.1 = zeroP from rfl, sv_zero]
          exact if_pos hi
        · show (0 : Nat).testBit x = true ↔ ∃ e, e < 0 ∧ m.2.2.2.1.2.2.2 e = x
          rw [Nat.zero_testBit]
          exact ⟨fun z => absurd z (by decide), fun ⟨e, he, _⟩ => absurd he (Nat.not_lt_zero _)⟩
      · exact ⟨⟨ok.1.1, Nat.zero_le _⟩, okp, zero_ok _, ⟨ok.2.2.2.1.1, Nat.zero_le _, fun i hi => absurd hi (Nat.not_lt_zero _)⟩, fun i hi z => (by cases z), Nat.two_pow_pos _, Nat.zero_le _⟩
end OPP
