/-! ===== turning to a new page ===== -/
def TurnB (cI cJ : ClassId) (M M2 : MP) (A : Nat → Prop) (xo tr cn : Nat) (su : Bool) (pa po : Nat → Nat) (K : Nat → Nat → BitVec 64) (pp : Nat → Nat → Int32) (w bk : Nat → BitVec 64) (wa : Nat → Bool) (ca qu ve : Nat → Nat) : Prop :=
  ∃ q p o t : Nat, (M q = none ∧ A q) ∧ (M p = none ∧ A p) ∧ (M o = none ∧ A o) ∧ (M t = none ∧ A t) ∧ M2 q = some (.inr (0, [.ref p, .ref (pa cn), .int (nI (cn + 1)), .null, .int (nI 0), .int (nI (qu cn + 1)), .int (nI 0)])) ∧ PosAt cI cJ M2 p o t (K cn) (pp cn) (w cn) (bk cn) (wa cn) ∧ M2 (pa cn) = some (.inr (0, [.ref (po cn), pgV pa cn, .int (nI cn), .ref q, .int (nI (ca cn)), .int (nI (qu cn)), .int (nI (ve cn))])) ∧ M2 xo = some (.inr (2, [.ref (pa 0), .ref tr, .ref q, .int (bI su)])) ∧ Keep M M2 (fun b => b = pa cn ∨ b = xo)
section PUSH
variable {cI cJ : ClassId} {M M2 : MP} {A : Nat → Prop} {xo tr cn : Nat} {su : Bool} {pa po okk pt : Nat → Nat} {K : Nat → Nat → BitVec 64} {pp : Nat → Nat → Int32} {w bk : Nat → BitVec 64} {wa : Nat → Bool} {ca qu ve : Nat → Nat} {N : Nat}
theorem pgV_up {q i : Nat} (h : i ≤ N) : pgV (va_up pa N q) i = pgV pa i := by
  cases i with
  | zero => rfl
  | succ i => show Value.ref (va_up pa N q i) = Value.ref (pa i); rw [vup_n (by omega)]
theorem Pages.push (h : Pages cI cJ M pa po okk pt K pp w bk wa ca qu ve N) (hN : cn + 1 = N) (hxo : M xo = some (.inr (2, [.ref (pa 0), .ref tr, .ref (pa cn), .int (bI su)]))) (hT : TurnB cI cJ M M2 A xo tr cn su pa po K pp w bk wa ca qu ve) :
    ∃ q p o t : Nat, Pages cI cJ M2 (va_up pa N q) (va_up po N p) (va_up okk N o) (va_up pt N t) (va_up K N (K cn)) (va_up pp N (pp cn)) (va_up w N (w cn)) (va_up bk N (bk cn)) (va_up wa N (wa cn)) (va_up ca N 0) (va_up qu N (qu cn + 1)) (va_up ve N 0) (N + 1) ∧ M2 xo = some (.inr (2, [.ref (pa 0), .ref tr, .ref q, .int (bI su)])) ∧ (M q = none ∧ A q) ∧ (M p = none ∧ A p) ∧ (M o = none ∧ A o) ∧ (M t = none ∧ A t) ∧ Keep M M2 (fun b => b = pa cn ∨ b = xo) := by
  obtain ⟨q, p, o, t, f1, f2, f3, f4, e1, e2, e3, e4, hk⟩ := hT
  have hcn : cn < N := by omega
  refine ⟨q, p, o, t, ⟨fun i hi => ?_, fun i hi => ?_, fun i j hi hj hij => ?_⟩, e4, f1, f2, f3, f4, hk⟩
  · unfold PgAt
    by_cases hiN : i = N
    · subst hiN
      rw [vup_s, vup_s, vup_s, vup_s, vup_s, pgV_up (Nat.le_refl _)]
      unfold afV
      rw [if_neg (by omega), ← hN]
      exact e1
    · have hi2 : i < N := by omega
      rw [vup_n hiN, vup_n hiN, vup_n hiN, vup_n hiN, vup_n hiN, pgV_up (by omega)]
      unfold afV
      rw [if_pos (by omega)]
      by_cases hic : i = cn
      · subst hic; rw [hN, vup_s]; exact e3
      · rw [vup_n (by omega)]
        have h3 := h.1 i hi2
        unfold PgAt afV at h3
        rw [if_pos (by omega)] at h3
        exact hk _ _ h3 (fun z => by
          rcases z with z | z
          · exact (h.2.2 i cn hi2 hcn hic).1 z
          · exact ne_oo h3 hxo (by decide) z)
  · by_cases hiN : i = N
    · subst hiN
      rw [vup_s, vup_s, vup_s, vup_s, vup_s, vup_s, vup_s, vup_s]
      exact e2
    · have hi2 : i < N := by omega
      rw [vup_n hiN, vup_n hiN, vup_n hiN, vup_n hiN, vup_n hiN, vup_n hiN, vup_n hiN, vup_n hiN]
      have h3 := h.2.1 i hi2
      refine ⟨hk _ _ h3.1 (fun z => ?_), hk _ _ h3.2.1 (fun z => ?_), hk _ _ h3.2.2 (fun z => ?_)⟩
      · rcases z with z | z
        · exact ne_oo h3.1 (h.1 cn hcn) (by decide) z
        · exact ne_oo h3.1 hxo (by decide) z
      · rcases z with z | z
        · exact ne_oi (h.1 cn hcn) h3.2.1 z.symm
        · exact ne_oi hxo h3.2.1 z.symm
      · rcases z with z | z
        · exact ne_oi (h.1 cn hcn) h3.2.2 z.symm
        · exact ne_oi hxo h3.2.2 z.symm
  · have fresh : ∀ k, k < N → pa k ≠ q ∧ po k ≠ p ∧ okk k ≠ o ∧ pt k ≠ t := fun k hk2 => ⟨ne_none (h.1 k hk2) f1.1, ne_none (h.2.1 k hk2).1 f2.1, ne_none (h.2.1 k hk2).2.1 f3.1, ne_none (h.2.1 k hk2).2.2 f4.1⟩
    by_cases hiN : i = N
    · subst hiN
      rw [vup_s, vup_s, vup_s, vup_s, vup_n (Ne.symm hij), vup_n (Ne.symm hij), vup_n (Ne.symm hij), vup_n (Ne.symm hij)]
      have z := fresh j (by omega)
      exact ⟨Ne.symm z.1, Ne.symm z.2.1, Ne.symm z.2.2.1, Ne.symm z.2.2.2⟩
    · by_cases hjN : j = N
      · subst hjN
        rw [vup_s, vup_s, vup_s, vup_s, vup_n hij, vup_n hij, vup_n hij, vup_n hij]
        exact fresh i (by omega)
      · rw [vup_n hiN, vup_n hiN, vup_n hiN, vup_n hiN, vup_n hjN, vup_n hjN, vup_n hjN, vup_n hjN]
        exact h.2.2 i j (by omega) (by omega) hij
end PUSH
/-- a write at an address that is new since M keeps what is kept of M -/
theorem Keep.newq {M M1 : MP} {P : Nat → Prop} (h : Keep M M1 P) {a : Nat} {x : va_E} (ha : M a = none) : Keep M (mu M1 a x) P := fun b e hb hn => (mu_n (fun z => by rw [z, ha] at hb; cases hb)).trans (h b e hb hn)
