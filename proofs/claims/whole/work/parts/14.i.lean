theorem Wr.mono {l : Launch} {y : MethodName} {cc : ByteArray} {n : Nat} {ret : Option FieldType} {d mc ms : Nat} {D : va_G} {cI cJ : ClassId} {av : List Value} {M : MP} {sz : Nat} {A : Nat → Prop} {v : Option Value} {Rm Rm' : MP → Prop} (h : Wr l y cc n ret d mc ms D cI cJ av M sz A v Rm) (hR : ∀ M', Rm M' → Rm' M') : Wr l y cc n ret d mc ms D cI cJ av M sz A v Rm' := by
  intro p e ha hc hk s m args below hf happ hP hK
  obtain ⟨k, o, h1, h2, h3, h4, L, h5, h6⟩ := h p e ha hc hk s m args below hf happ hP hK
  obtain ⟨⟨e1, M', r1, r2⟩, f1⟩ := h4
  exact ⟨k, o, h1, h2, h3, ⟨⟨e1, M', hR M' r1, r2⟩, f1⟩, L, h5, h6⟩
def tN (N cn : Nat) : Nat := if cn + 1 < N then N else N + 1
def tC (N cn : Nat) : Nat := if cn + 1 < N then 0 else 4
def tS (N cn : Nat) : Nat := if cn + 1 < N then 0 else 83
def OwC (xo : Nat) (pa po okk pt : Nat → Nat) (N : Nat) (b : Nat) : Prop := b = xo ∨ ∃ i, i < N ∧ (b = pa i ∨ b = po i ∨ b = okk i ∨ b = pt i)
/-- behind the turning of a page -/
def Turned (cI cJ : ClassId) (M M' : MP) (A : Nat → Prop) (xo tr cn : Nat) (su : Bool) (pa po okk pt : Nat → Nat) (K : Nat → Nat → BitVec 64) (pp : Nat → Nat → Int32) (w bk : Nat → BitVec 64) (wa : Nat → Bool) (ca qu ve : Nat → Nat) (N : Nat) : Prop :=
  ∃ (pa' po' okk' pt' ve' : Nat → Nat), Pages cI cJ M' pa' po' okk' pt' (va_up K (cn + 1) (K cn)) (va_up pp (cn + 1) (pp cn)) (va_up w (cn + 1) (w cn)) (va_up bk (cn + 1) (bk cn)) (va_up wa (cn + 1) (wa cn)) (va_up ca (cn + 1) 0) (va_up qu (cn + 1) (qu cn + 1)) ve' (tN N cn) ∧ M' xo = some (.inr (2, [.ref (pa' 0), .ref tr, .ref (pa' (cn + 1)), .int (bI su)])) ∧ (∀ i, i ≤ cn → ve' i = ve i) ∧ (∀ i, i < N → pa' i = pa i ∧ po' i = po i ∧ okk' i = okk i ∧ pt' i = pt i) ∧ (cn + 1 < N ∨ ((M (pa' N) = none ∧ A (pa' N)) ∧ (M (po' N) = none ∧ A (po' N)) ∧ (M (okk' N) = none ∧ A (okk' N)) ∧ (M (pt' N) = none ∧ A (pt' N)))) ∧ Keep M M' (OwC xo pa po okk pt N)
theorem met_X3_turnPage (l : Launch) {D : va_G} {cI cJ : ClassId} {M : MP} {A : Nat → Prop} {sz : Nat} (xo tr cn N : Nat) (su : Bool) (pa po okk pt : Nat → Nat) (K : Nat → Nat → BitVec 64) (pp : Nat → Nat → Int32) (w bk : Nat → BitVec 64) (wa : Nat → Bool) (ca qu ve : Nat → Nat) (hxo : M xo = some (.inr (2, [.ref (pa 0), .ref tr, .ref (pa cn), .int (bI su)]))) (hPs : Pages cI cJ M pa po okk pt K pp w bk wa ca qu ve N) (hcn : cn < N) (hN : N ≤ 514) (hqu : qu cn < 2 ^ 30) (hAc : ∀ b, OwC xo pa po okk pt N b → A b) (hAn : ∀ q, sz ≤ q → A q) : Wr l yX3_turnPage cX3_turnPage 3 none 6 (tC N cn) (tS N cn) D cI cJ [.ref xo] M sz A none (fun M' => Turned cI cJ M M' A xo tr cn su pa po okk pt K pp w bk wa ca qu ve N) := by
  have hi : ∀ i, i < N → ∀ b, (b = pa i ∨ b = po i ∨ b = okk i ∨ b = pt i) → OwC xo pa po okk pt N b := fun i h b hb => Or.inr ⟨i, h, hb⟩
  by_cases hca : cn + 1 < N
  · rw [show tC N cn = 0 from if_pos hca, show tS N cn = 0 from if_pos hca]
    refine Wr.mono (met_X3_turnPage_a l xo tr cn N su pa po okk pt K pp w bk wa ca qu ve hxo hPs hcn hN hca hqu (hAc _ (hi _ hca _ (Or.inr (Or.inl rfl)))) (hAc _ (hi _ hca _ (Or.inr (Or.inr (Or.inl rfl))))) (hAc _ (hi _ hca _ (Or.inr (Or.inr (Or.inr rfl))))) (hAc _ (hi _ hca _ (Or.inl rfl))) (hAc _ (Or.inl rfl))) ?_
    rintro M' rfl
    refine ⟨pa, po, okk, pt, va_up ve (cn + 1) (ve (cn + 1)), ?_, mu_s, fun i h => vup_n (by omega), fun i _ => ⟨rfl, rfl, rfl, rfl⟩, Or.inl hca, ?_⟩
    · rw [show tN N cn = N from if_pos hca]
      refine Pages.w0 ((((hPs.w1 hca).w2 hca).w3 hca).w4 hca) (fun i h => ⟨ne_oo (hPs.1 i h) hxo (by decide), ne_oo (hPs.2.1 i h).1 hxo (by decide), Ne.symm (ne_oi hxo (hPs.2.1 i h).2.1), Ne.symm (ne_oi hxo (hPs.2.1 i h).2.2)⟩)
    · exact ((((Keep.rf.up (hi _ hca _ (Or.inr (Or.inl rfl)))).up (hi _ hca _ (Or.inr (Or.inr (Or.inl rfl))))).up (hi _ hca _ (Or.inr (Or.inr (Or.inr rfl))))).up (hi _ hca _ (Or.inl rfl))).up (Or.inl rfl)
  · have hNc : cn + 1 = N := by omega
    rw [show tC N cn = 4 from if_neg hca, show tS N cn = 83 from if_neg hca]
    refine Wr.mono (met_X3_turnPage_b l xo tr cn N su pa po okk pt K pp w bk wa ca qu ve hxo hPs hcn hN hNc hqu (hAc _ (hi _ hcn _ (Or.inl rfl))) (hAc _ (Or.inl rfl)) hAn) ?_
    intro M' hT
    obtain ⟨q, p, o, t, hP2, hx2, f1, f2, f3, f4, hk⟩ := hPs.push hNc hxo hT
    refine ⟨va_up pa N q, va_up po N p, va_up okk N o, va_up pt N t, va_up ve N 0, ?_, ?_, fun i h => vup_n (by omega), fun i h => ⟨vup_n (by omega), vup_n (by omega), vup_n (by omega), vup_n (by omega)⟩, Or.inr ⟨by rw [vup_s]; exact f1, by rw [vup_s]; exact f2, by rw [vup_s]; exact f3, by rw [vup_s]; exact f4⟩, ?_⟩
    · rw [show tN N cn = N + 1 from if_neg hca, hNc]; exact hP2
    · rw [hNc, vup_s, vup_n (by omega)]; exact hx2
    · exact hk.weak (fun b e hb z => by
        rcases z with z | z
        · exact hi cn hcn b (Or.inl z)
        · exact Or.inl z)
theorem Keep.upq {M M1 : MP} {P : Nat → Prop} (h : Keep M M1 P) {a : Nat} {x : va_E} (ha : P a ∨ M a = none) : Keep M (mu M1 a x) P := by
  rcases ha with ha | ha
  · exact h.up ha
  · exact h.newq ha
/-- the cells of the page turned to: they may be written, and are the game's own, or new -/
theorem turned_own {M : MP} {A : Nat → Prop} {xo cn N : Nat} {pa po okk pt pa' po' okk' pt' : Nat → Nat} (hcn : cn < N) (hAc : ∀ b, OwC xo pa po okk pt N b → A b) (hs : ∀ i, i < N → pa' i = pa i ∧ po' i = po i ∧ okk' i = okk i ∧ pt' i = pt i) (hf : cn + 1 < N ∨ ((M (pa' N) = none ∧ A (pa' N)) ∧ (M (po' N) = none ∧ A (po' N)) ∧ (M (okk' N) = none ∧ A (okk' N)) ∧ (M (pt' N) = none ∧ A (pt' N)))) :
    (A (pa' (cn + 1)) ∧ (OwC xo pa po okk pt N (pa' (cn + 1)) ∨ M (pa' (cn + 1)) = none)) ∧ (A (po' (cn + 1)) ∧ (OwC xo pa po okk pt N (po' (cn + 1)) ∨ M (po' (cn + 1)) = none)) ∧ (A (okk' (cn + 1)) ∧ (OwC xo pa po okk pt N (okk' (cn + 1)) ∨ M (okk' (cn + 1)) = none)) ∧ (A (pt' (cn + 1)) ∧ (OwC xo pa po okk pt N (pt' (cn + 1)) ∨ M (pt' (cn + 1)) = none)) := by
  by_cases h : cn + 1 < N
  · have z := hs _ h
    rw [z.1, z.2.1, z.2.2.1, z.2.2.2]
    have i1 : OwC xo pa po okk pt N (pa (cn + 1)) := Or.inr ⟨_, h, Or.inl rfl⟩
    have i2 : OwC xo pa po okk pt N (po (cn + 1)) := Or.inr ⟨_, h, Or.inr (Or.inl rfl)⟩
    have i3 : OwC xo pa po okk pt N (okk (cn + 1)) := Or.inr ⟨_, h, Or.inr (Or.inr (Or.inl rfl))⟩
    have i4 : OwC xo pa po okk pt N (pt (cn + 1)) := Or.inr ⟨_, h, Or.inr (Or.inr (Or.inr rfl))⟩
    exact ⟨⟨hAc _ i1, Or.inl i1⟩, ⟨hAc _ i2, Or.inl i2⟩, ⟨hAc _ i3, Or.inl i3⟩, ⟨hAc _ i4, Or.inl i4⟩⟩
  · have e : N = cn + 1 := by omega
    rcases hf with hf | ⟨f1, f2, f3, f4⟩
    · exact absurd hf h
    · rw [e] at f1 f2 f3 f4
      exact ⟨⟨f1.2, Or.inr f1.1⟩, ⟨f2.2, Or.inr f2.1⟩, ⟨f3.2, Or.inr f3.1⟩, ⟨f4.2, Or.inr f4.1⟩⟩
/-- behind an action: one page more, with its verdict -/
def Acted (cI cJ : ClassId) (M M' : MP) (A : Nat → Prop) (xo tr cn : Nat) (su : Bool) (pa po okk pt : Nat → Nat) (K : Nat → Nat → BitVec 64) (pp : Nat → Nat → Int32) (w bk : Nat → BitVec 64) (wa : Nat → Bool) (ca qu ve : Nat → Nat) (N : Nat) (K1 : Nat → BitVec 64) (p1 : Nat → Int32) (w1 b1 : BitVec 64) (c1 q1 : Nat) : Prop :=
  ∃ (pa' po' okk' pt' ve' : Nat → Nat), Pages cI cJ M' pa' po' okk' pt' (va_up K (cn + 1) K1) (va_up pp (cn + 1) p1) (va_up w (cn + 1) w1) (va_up bk (cn + 1) b1) (va_up wa (cn + 1) (!wa cn)) (va_up ca (cn + 1) c1) (va_up qu (cn + 1) q1) ve' (tN N cn) ∧ M' xo = some (.inr (2, [.ref (pa' 0), .ref tr, .ref (pa' (cn + 1)), .int (bI su)])) ∧ (∀ i, i ≤ cn → ve' i = ve i) ∧ ve' (cn + 1) = kVer (va_up K (cn + 1) K1) (va_up pp (cn + 1) p1) (va_up w (cn + 1) w1) (va_up bk (cn + 1) b1) (va_up wa (cn + 1) (!wa cn)) (va_up qu (cn + 1) q1) (cn + 1) ∧ (∀ i, i < N → pa' i = pa i ∧ po' i = po i ∧ okk' i = okk i ∧ pt' i = pt i) ∧ (cn + 1 < N ∨ ((M (pa' N) = none ∧ A (pa' N)) ∧ (M (po' N) = none ∧ A (po' N)) ∧ (M (okk' N) = none ∧ A (okk' N)) ∧ (M (pt' N) = none ∧ A (pt' N)))) ∧ Keep M M' (OwC xo pa po okk pt N)
theorem tN_lt {N cn : Nat} (h : cn < N) : cn + 1 < tN N cn := by unfold tN; split <;> omega
theorem tN_le {N cn : Nat} : tN N cn ≤ N + 1 := by unfold tN; split <;> omega
